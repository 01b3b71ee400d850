theorem good_sub {ws : List Cond} (h : ∀ w ∈ ws, w ∈ lw_g) : GoodIn lw_g ws := fun w hw => ⟨h w hw, good_of_word (List.mem_filter.mp (h w hw)).2⟩
def rmD (d : Nat) : Room := { frames := d, cells := 0, slots := 0, locals := 40 * d }
def wz (y : MethodName) (cc : ByteArray) (maxL : Nat) (ret : Option FieldType) : List Cond := .code y cc maxL ret :: lw_g
def As (xx : Bool) (ad : Nat → Nat → Nat) : Nat → Prop := fun q => ∃ t i, i < cnt xx t ∧ q = ad t i
def Wd (xx : Bool) (D : va_G) (cy : Nat → ClassId) (ad : Nat → Nat → Nat) (σ : Mem) (U : State) : Prop := va_P D classes (pool xx cy ad σ) U.heap ∧ va_K D classes (tysL cy) U ∧ va_D (fun _ => True) (pool xx cy ad σ) ∧ (∀ t i j, inR (σ t i j)) ∧ ∀ w ∈ nw, va_Nw w U
def Qz (xx : Bool) (D : va_G) (cy : Nat → ClassId) (ad : Nat → Nat → Nat) (K : Option Int → Mem → Prop) : Array Value → State → Outcome → State → Prop := fun _ st o t => (∃ (r : Option Int) (σ' : Mem), o = .returned (r.map (fun x => Value.int (Int32.ofInt x))) ∧ (∀ x, r = some x → inR x) ∧ K r σ' ∧ Wd xx D cy ad σ' t) ∧ va_F (As xx ad) st t
/-- a method's contract: where T asks K, the method returns, and K holds -/
def Ct (l : Launch) (y : MethodName) (cc : ByteArray) (maxL : Nat) (ret : Option FieldType) (n : Nat) (T : Tr) : Prop := ∀ (xx : Bool) (D : va_G) (cy : Nat → ClassId) (ad : Nat → Nat → Nat) (d : Nat), n ≤ d → ∀ (a : List AV) (σ : Mem) (K : Option Int → Mem → Prop), okS xx a → T a σ K → Met l y (wz y cc maxL ret) (rmD d) (va_Pc (a.map (vV ad)) (Wd xx D cy ad σ)) (Qz xx D cy ad K) 0 0 (As xx ad)
theorem pool_len {xx : Bool} {cy : Nat → ClassId} {ad : Nat → Nat → Nat} {σ σ' : Mem} {k : Nat} {q : Nat × va_E} (h : (pool xx cy ad σ)[k]? = some q) : ∃ q', (pool xx cy ad σ')[k]? = some q' ∧ q'.1 = q.1 := by
  unfold pool at h ⊢
  rw [List.getElem?_map] at h ⊢
  cases hc : (cs xx)[k]? with
  | none => rw [hc] at h; cases h
  | some c =>
    rw [hc] at h
    cases h
    exact ⟨_, rfl, rfl⟩
theorem pool_D {xx : Bool} {B : Nat → Prop} {cy : Nat → ClassId} {ad : Nat → Nat → Nat} {σ : Mem} (h : va_D B (pool xx cy ad σ)) (σ' : Mem) : va_D B (pool xx cy ad σ') := by
  refine ⟨fun i j p q hi hj hpq => ?_, fun k q hk => ?_⟩
  · obtain ⟨p', hp', e1⟩ := pool_len (σ' := σ) hi
    obtain ⟨q', hq', e2⟩ := pool_len (σ' := σ) hj
    exact h.1 i j p' q' hp' hq' (by rw [e1, e2]; exact hpq)
  · obtain ⟨q', hq', e2⟩ := pool_len (σ' := σ) hk
    rw [← e2]
    exact h.2 k q' hq'
theorem pool_As {xx : Bool} {cy : Nat → ClassId} {ad : Nat → Nat → Nat} {σ : Mem} (h : va_D (fun _ => True) (pool xx cy ad σ)) (σ' : Mem) : va_D (As xx ad) (pool xx cy ad σ') := by
  refine (pool_D h σ').weaken (fun k q hk _ => ?_)
  unfold pool at hk
  rw [List.getElem?_map] at hk
  cases hc : (cs xx)[k]? with
  | none => rw [hc] at hk; cases hk
  | some c =>
    rw [hc] at hk
    cases hk
    exact ⟨c.1, c.2, cs_cnt (List.mem_of_getElem? hc), rfl⟩
theorem Wd.blind {xx : Bool} {D : va_G} {cy : Nat → ClassId} {ad : Nat → Nat → Nat} {σ : Mem} {as : List Value} : FrameBlind (va_Pc as (Wd xx D cy ad σ)) := fun a U g mk h => ⟨h.1, h.2.1, va_K.moved (u := U) (U := U.calling g mk a) (Vm.Alike.refl U.vm) h.2.2.1, h.2.2.2.1, h.2.2.2.2.1, nw_same (u := U) (U := U.calling g mk a) rfl h.2.2.2.2.2⟩
/-- what the tables say of an own method that is called on its object -/
def MF (y : MethodName) (cc : ByteArray) (maxL : Nat) (ret : Option FieldType) (ci n : Nat) : Prop := (Cond.instanceMethod y ∈ lw_g ∧ Cond.selects y.cls y y ∈ lw_g ∧ Cond.initialized y.cls ∈ lw_g ∧ Cond.code y cc maxL ret ∈ lw_g) ∧ (∃ q, classes[ci]? = some q ∧ q.1 = y.cls) ∧ (y.cls ≠ "java/lang/invoke/MethodHandle" ∧ y.cls ≠ "java/lang/invoke/VarHandle" ∧ (parseMethodDescriptor y.desc).map (fun d => d.parameters.length) = some n) ∧ maxL ≤ 20
def SF (y : MethodName) (cc : ByteArray) (maxL : Nat) (ret : Option FieldType) (n : Nat) : Prop := (Cond.static y ∈ lw_g ∧ Cond.initialized y.cls ∈ lw_g ∧ Cond.code y cc maxL ret ∈ lw_g) ∧ (y.cls ≠ "java/lang/invoke/MethodHandle" ∧ y.cls ≠ "java/lang/invoke/VarHandle" ∧ (parseMethodDescriptor y.desc).map (fun d => d.parameters.length) = some n) ∧ maxL ≤ 20
theorem va_cat_le {ad : Nat → Nat → Nat} : ∀ {rest : List AV}, rest.length ≤ 4 → ((rest.map (vV ad)).map fun v => v.category).sum ≤ 8 := by
  have key : ∀ (rest : List AV), ((rest.map (vV ad)).map fun v => v.category).sum ≤ 2 * rest.length := by
    intro rest
    induction rest with
    | nil => exact Nat.le_refl 0
    | cons v r ih =>
      simp only [List.map_cons, List.sum_cons, List.length_cons]
      rcases lv_cat (vV ad v) with h | h <;> omega
  intro rest h
  have := key rest
  omega
section
variable {xx : Bool} {p : Program} {l : Launch} {e : Env} {R : Room} {s : State} {m : MethodId} {args : Array Value} {below : List Frame} {meth : Method} {c : Code} {cells slots : Nat} {Q : State → Prop} {D : va_G} {cy : Nat → ClassId} {ad : Nat → Nat → Nat} {A : Nat → Prop} {cc : ByteArray} {nL : Nat}
/-- behind a call that keeps to its contract -/
theorem call_on {H : Heap} {locs : List Loc} {g : JFrame} {rest : List Value} {a : Array Value} {K' : Option Int → Mem → Prop} {σ : Mem} (hA : ∀ q, As xx ad q → A q) (hS : va_S A s.heap H locs)
    (hr : va_Run p l e R s m args below meth c H locs cells slots 0 0 g rest (Qz xx D cy ad K' a) (As xx ad))
    (kk : ∀ r σ' H' locs', Ok xx D cy ad A s.heap H' locs' σ' → (∀ x, r = some x → inR x) → K' r σ' → W p l e R s m args below meth c H' locs' cells slots Q { g with pc := g.pc + 3, stack := rV r ++ rest }) : W p l e R s m args below meth c H locs cells slots Q g := by
  intro T hT X
  obtain ⟨v, st₀, t, T', L, h0, X', hL, e1, e2, ⟨⟨r, σ', hv, hri, hk, hw⟩, hz, hkp⟩, st⟩ := hr T hT X
  cases hv
  rw [h0] at hz hkp
  obtain ⟨t2, a1, b1⟩ := kk r σ' T'.heap (locs ++ L) ⟨by rw [e1]; exact hw.1, ⟨Nat.le_trans hS.1 (by rw [e1]; exact hz), fun q h1 h2 => by rw [e1, hkp q (Nat.lt_of_lt_of_le h1 hS.1) (fun z => h2 (hA q z))]; exact hS.2.1 q h1 h2, fun q hq => by
    rcases List.mem_append.mp hq with h | h
    · exact hS.2.2 q h
    · exact hA _ (hL q h)⟩, hw.2.2.2.1⟩ hri hk T' rfl X'
  exact ⟨t2, st t2 a1, b1⟩
theorem cr_V {own : String} {k n nn ci maxL : Nat} {y : MethodName} {bytes : ByteArray} {ret : Option FieldType} {T : Tr} (hx : p.tables.exec = Jvm.exec) (hb : c.code = cc) (hml : c.maxLocals = nL) (hown : s.vm.findClass own = some m.cls) (hts : ∀ w ∈ lw_g, w.before args s = true) (hK : va_K D classes (tysL cy) s) (hDD : va_D (fun _ => True) (pool xx cy ad (fun _ _ _ => 0))) (hNw : ∀ w ∈ nw, va_Nw w s) (hA : ∀ q, As xx ad q → A q) (hcs : cells ≤ R.cells) (hss : slots ≤ R.slots)
    (hM : Ct l y bytes maxL ret nn T) (hF : MF y bytes maxL ret ci n) (hl : Cond.methodLink own k y ∈ lw_g) (hR : nn + 1 ≤ R.frames ∧ 40 * nn + 40 ≤ R.locals) : CR xx p l e R s m args below meth c cells slots Q D cy ad A cc nL (.invokevirtual k) (n + 1) (rcv ci) T := by
  intro pc H locs ls σ as rest K' hd hO hls hlen hok hrc hT hrest kk
  obtain ⟨⟨f1, f2, f3, f4⟩, ⟨q, f5, f6⟩, f7, f8⟩ := hF
  rcases as with _ | ⟨(x | ⟨t, i⟩ | x), as'⟩
  · exact hrc.elim
  · exact hrc.elim
  · have ht : t = ci := hrc
    subst ht
    obtain ⟨hv, -⟩ := okS_cons hok
    have h8 := (cls_ok _ _ f5).2.1
    obtain ⟨q0, hc0, hp0⟩ := pool_at cy ad σ (refN hv (by omega))
    rw [enc_obj h8] at hp0
    have hws : ∀ w ∈ wsV own k y.cls y (wz y bytes maxL ret), w ∈ lw_g := by
      intro w hw
      simp only [wsV, wz, List.mem_append, List.mem_cons, List.not_mem_nil, or_false] at hw
      rcases hw with (rfl | rfl | rfl | rfl) | (rfl | hw)
      · exact hl
      · exact f1
      · exact f2
      · exact f3
      · exact f4
      · exact hw
    have hcw : CallW R s args own y.cls k y bytes maxL ret (wz y bytes maxL ret) (rmD nn) 0 0 n := cwV n hts (good_sub hws) rfl rfl rfl ⟨rfl, f7⟩ ⟨hR.1, by show 8 + (maxL + 11) + 40 * nn ≤ R.locals; omega⟩
    have hrecv := va_recv hK hO.1 f5 hp0
    rw [f6] at hrecv
    have hrun := va_runV (g := F0 m pc ls (((Sum.inr (Sum.inl (t, i)) :: as').reverse ++ rest).map (vV ad))) (rest := rest.map (vV ad)) (As := as'.map (vV ad)) (cells := cells) (slots := slots) (locs := locs) (below := below) (meth := meth) (e := e) ⟨hx, hb, hml, hown, hts⟩ (hM xx D cy ad nn (Nat.le_refl _) _ σ K' hok hT) hcw
      ⟨Wd.blind, hrecv, fun U hU hW => ⟨rfl, by rw [hU]; exact hO.1, va_K.moved hW.alike hK, pool_D hDD σ, hO.2.2, nw_warm hW hNw⟩⟩ rfl (by simpa using hlen) hls (by simp [vV]) (lv_room (va_cat_le hrest)) hd ⟨hcs, hss⟩
    exact call_on (σ := σ) hA hO.2.1 hrun kk
  · exact hrc.elim
theorem cr_S {own : String} {k n nn maxL : Nat} {y : MethodName} {bytes : ByteArray} {ret : Option FieldType} {T : Tr} (hx : p.tables.exec = Jvm.exec) (hb : c.code = cc) (hml : c.maxLocals = nL) (hown : s.vm.findClass own = some m.cls) (hts : ∀ w ∈ lw_g, w.before args s = true) (hK : va_K D classes (tysL cy) s) (hDD : va_D (fun _ => True) (pool xx cy ad (fun _ _ _ => 0))) (hNw : ∀ w ∈ nw, va_Nw w s) (hA : ∀ q, As xx ad q → A q) (hcs : cells ≤ R.cells) (hss : slots ≤ R.slots)
    (hM : Ct l y bytes maxL ret nn T) (hF : SF y bytes maxL ret n) (hl : (y.cls = own ∧ Cond.methodLink own k y ∈ lw_g) ∨ ∃ host, Cond.methodLinkNest own k y host ∈ nw) (hR : nn + 1 ≤ R.frames ∧ 40 * nn + 40 ≤ R.locals) : CR xx p l e R s m args below meth c cells slots Q D cy ad A cc nL (.invokestatic k) n (fun _ => True) T := by
  intro pc H locs ls σ as rest K' hd hO hls hlen hok _ hT hrest kk
  obtain ⟨⟨f1, f2, f3⟩, f7, f8⟩ := hF
  have hRR : (rmD nn).frames + 1 ≤ R.frames ∧ 8 + (maxL + 11) + (rmD nn).locals ≤ R.locals := ⟨hR.1, by show 8 + (maxL + 11) + 40 * nn ≤ R.locals; omega⟩
  have hp : PreS s H (va_Pc (as.map (vV ad)) (Wd xx D cy ad σ)) (as.map (vV ad)) := ⟨Wd.blind, fun U hU hW => ⟨rfl, by rw [hU]; exact hO.1, va_K.moved hW.alike hK, pool_D hDD σ, hO.2.2, nw_warm hW hNw⟩⟩
  rcases hl with ⟨hcl, hl⟩ | ⟨host, hl⟩
  · have hws : ∀ w ∈ wsS own k y (wz y bytes maxL ret), w ∈ lw_g := by
      intro w hw
      simp only [wsS, wz, List.mem_append, List.mem_cons, List.not_mem_nil, or_false] at hw
      rcases hw with (rfl | rfl | rfl) | (rfl | hw)
      · exact hl
      · exact f1
      · rw [← hcl]; exact f2
      · exact f3
      · exact hw
    have hrun := va_runS (g := F0 m pc ls ((as.reverse ++ rest).map (vV ad))) (rest := rest.map (vV ad)) (As := as.map (vV ad)) (cells := cells) (slots := slots) (locs := locs) (below := below) (meth := meth) (e := e) ⟨hx, hb, hml, hown, hts⟩ (hM xx D cy ad nn (Nat.le_refl _) _ σ K' hok hT) (cwS n hts (good_sub hws) rfl rfl rfl ⟨hcl, f7⟩ hRR) hp rfl (by simpa using hlen) hls (by simp) (lv_room (va_cat_le hrest)) hd ⟨hcs, hss⟩
    exact call_on (σ := σ) hA hO.2.1 hrun kk
  · have hws : ∀ w ∈ wz y bytes maxL ret, w ∈ lw_g := by
      intro w hw
      simp only [wz, List.mem_cons] at hw
      rcases hw with rfl | hw
      · exact f3
      · exact hw
    have hrun := va_runSN (host := host) (g := F0 m pc ls ((as.reverse ++ rest).map (vV ad))) (rest := rest.map (vV ad)) (As := as.map (vV ad)) (cells := cells) (slots := slots) (locs := locs) (below := below) (meth := meth) (e := e) ⟨hx, hb, hml, hown, hts⟩ (hM xx D cy ad nn (Nat.le_refl _) _ σ K' hok hT) ⟨va_cnB n hts (good_sub hws) rfl rfl rfl (hNw _ hl) (hts _ f2) f7 hRR, hts _ f1, trivial⟩ hp rfl (by simpa using hlen) hls (by simp) (lv_room (va_cat_le hrest)) hd ⟨hcs, hss⟩
    exact call_on (σ := σ) hA hO.2.1 hrun kk
end
/-! a method, from its entry -/
def eL : List AV → LL
  | [] => []
  | .inr (.inr x) :: r => some (.inr (.inr x)) :: none :: eL r
  | v :: r => some v :: eL r
def entL (a : List AV) (nL : Nat) : LL := eL a ++ List.replicate (nL - (eL a).length) none
theorem eL_len (ad : Nat → Nat → Nat) : ∀ a : List AV, (lg_sl (a.map (vV ad))).length = (eL a).length
  | [] => rfl
  | .inl x :: r => by
    have := eL_len ad r
    simp [lg_sl, eL, vV, Value.category] at this ⊢
    omega
  | .inr (.inl x) :: r => by
    have := eL_len ad r
    simp [lg_sl, eL, vV, Value.category] at this ⊢
    omega
  | .inr (.inr x) :: r => by
    have := eL_len ad r
    simp [lg_sl, eL, vV, Value.category] at this ⊢
    omega
theorem lget_app_none : ∀ (L : LL) (k i : Nat) (v : AV), lget (L ++ List.replicate k none) i = some v → lget L i = some v
  | [], 0, _, _, h => by cases h
  | [], k + 1, 0, _, h => by cases h
  | [], k + 1, i + 1, v, h => by
    have := lget_app_none [] k i v h
    cases this
  | _ :: _, _, 0, _, h => h
  | _ :: L, k, i + 1, v, h => lget_app_none L k i v h
theorem eL_arg (ad : Nat → Nat → Nat) : ∀ (a : List AV) (k i : Nat) (v : AV), lget (eL a) i = some v → (k + i, vV ad v) ∈ lv_args k (a.map (vV ad))
  | [], _, _, _, h => by cases h
  | .inl x :: r, k, 0, v, h => by cases h; exact List.mem_cons_self
  | .inr (.inl x) :: r, k, 0, v, h => by cases h; exact List.mem_cons_self
  | .inr (.inr x) :: r, k, 0, v, h => by cases h; exact List.mem_cons_self
  | .inl x :: r, k, i + 1, v, h => by
    have := eL_arg ad r (k + 1) i v h
    refine List.mem_cons_of_mem _ ?_
    rw [show k + (i + 1) = k + 1 + i by omega]
    exact this
  | .inr (.inl x) :: r, k, i + 1, v, h => by
    have := eL_arg ad r (k + 1) i v h
    refine List.mem_cons_of_mem _ ?_
    rw [show k + (i + 1) = k + 1 + i by omega]
    exact this
  | .inr (.inr x) :: r, k, 1, v, h => by cases h
  | .inr (.inr x) :: r, k, i + 2, v, h => by
    have := eL_arg ad r (k + 2) i v h
    refine List.mem_cons_of_mem _ ?_
    rw [show k + (i + 2) = k + 2 + i by omega]
    exact this
theorem rel_entry (ad : Nat → Nat → Nat) (a : List AV) {nL : Nat} (h : (eL a).length ≤ nL) : rel ad (entL a nL) nL ((lg_sl (a.map (vV ad)) ++ List.replicate (nL - (lg_sl (a.map (vV ad))).length) Slot.unset).toArray) := by
  have hl := lv_entry (a.map (vV ad)) (n := nL) (by rw [eL_len]; exact h)
  refine ⟨by unfold entL; simp; omega, hl.2.1, hl.1, fun i v hv => ?_⟩
  have h1 := eL_arg ad a 0 i v (lget_app_none _ _ _ _ hv)
  rw [Nat.zero_add] at h1
  exact hl.2.2 _ h1
theorem okL_entry {xx : Bool} {a : List AV} (h : okS xx a) (nL : Nat) : okL xx (entL a nL) := by
  have key : ∀ (a : List AV), okS xx a → okL xx (eL a) := by
    intro a
    induction a with
    | nil => intro _ i v hv; cases hv
    | cons w r ih =>
      intro h i v hv
      obtain ⟨h1, h2⟩ := okS_cons h
      rcases w with x | c | x
      · cases i with
        | zero => cases hv; exact h1
        | succ i => exact ih h2 i v hv
      · cases i with
        | zero => cases hv; exact h1
        | succ i => exact ih h2 i v hv
      · match i, hv with
        | 0, hv => cases hv; exact h1
        | 1, hv => cases hv
        | i + 2, hv => exact ih h2 i v hv
  exact fun i v hv => key a h i v (lget_app_none _ _ _ _ hv)
/-- what a method answers, by its type -/
def Kr (ret : Option FieldType) (K : Option Int → Mem → Prop) : Option Int → Mem → Prop := fun r σ => match r with
  | none => ret = none ∧ K none σ
  | some x => (ret = some .int ∨ (ret = some .boolean ∧ (x = 0 ∨ x = 1))) ∧ K (some x) σ
/-- a site of a call: which method, what it pops, its contract -/
def Site (l : Launch) (own : String) (k n ci nn : Nat) (T : Tr) : Prop := ∃ (y : MethodName) (bytes : ByteArray) (maxL : Nat) (ret : Option FieldType), Ct l y bytes maxL ret nn T ∧
  ((∃ n', n = n' + 1 ∧ MF y bytes maxL ret ci n' ∧ Cond.methodLink own k y ∈ lw_g) ∨ (ci = 99 ∧ SF y bytes maxL ret n ∧ ((y.cls = own ∧ Cond.methodLink own k y ∈ lw_g) ∨ ∃ host, Cond.methodLinkNest own k y host ∈ nw)))
def FldOK (own : String) (fr : Nat → Option (Nat × Nat × Int)) : Prop := ∀ k t j z, fr k = some (t, j, z) → ∃ q, classes[t]? = some q ∧ z = (j : Int) ∧ j < q.2.2 ∧ Cond.fieldLink own k (q.2.1 j).1 (q.2.1 j).2.1 (q.2.1 j).2.2.1 ∈ lw_g
def CstOK (own : String) (kc : Nat → Option Int) (kl : Nat → Option Int64) : Prop := (∀ k x, kc k = some x → inR x ∧ Cond.constant own k (Int32.ofInt x) ∈ lw_g) ∧ ∀ k x, kl k = some x → Cond.constantLong own k x ∈ lw_g
