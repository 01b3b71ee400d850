/-! a method that makes a row of its own: the pool with it and without it -/
theorem cnt_ft {t i : Nat} (h : i < cnt false t) : i < cnt true t ∧ t ≠ 57 := by
  unfold cnt at h ⊢
  by_cases z : t = 57
  · rw [if_pos z] at h
    exact absurd h (Nat.not_lt_zero _)
  · rw [if_neg z] at h ⊢
    exact ⟨h, z⟩
theorem cnt_tf {t i : Nat} (h : i < cnt true t) (z : t ≠ 57) : i < cnt false t := by
  unfold cnt at h ⊢
  rw [if_neg z] at h ⊢
  exact h
theorem As_ft {ad : Nat → Nat → Nat} {q : Nat} (h : As false ad q) : As true ad q := by
  obtain ⟨t, i, a, b⟩ := h
  exact ⟨t, i, (cnt_ft a).1, b⟩
theorem cs_true : cs true = cs false ++ [(57, 0)] := by decide +kernel
theorem pool_mem {xx : Bool} {cy : Nat → ClassId} {ad : Nat → Nat → Nat} {σ : Mem} {k : Nat} {x : Nat × va_E} (h : (pool xx cy ad σ)[k]? = some x) : ∃ t i, (cs xx)[k]? = some (t, i) ∧ i < cnt xx t ∧ x = (ad t i, enc cy ad σ t i) := by
  unfold pool at h
  rw [List.getElem?_map] at h
  cases hc : (cs xx)[k]? with
  | none => rw [hc] at h; cases h
  | some c =>
    rw [hc] at h
    cases h
    exact ⟨c.1, c.2, rfl, cs_cnt (List.mem_of_getElem? hc), rfl⟩
/-- what a cell is made of depends on its own row and on the addresses that it points to -/
theorem enc_cg {cy : Nat → ClassId} {ad ad2 : Nat → Nat → Nat} {σ σ2 : Mem} {t i : Nat} (h : i < cnt false t) (ha : ∀ t i, t ≠ 57 → ad2 t i = ad t i) (e : ∀ j, σ2 t i j = σ t i j) : enc cy ad2 σ2 t i = enc cy ad σ t i := by
  have e' : σ2 t i = σ t i := funext e
  unfold enc
  rw [e']
  cases hk : ak t with
  | none =>
    have h8 : t < 8 := by
      unfold ak at hk
      by_cases z : t < 8
      · exact z
      · rw [if_neg z] at hk
        by_cases z2 : t = 57
        · exact absurd z2 (cnt_ft h).2
        · rw [if_neg z2] at hk
          have := List.getElem?_eq_none_iff.mp hk
          have l : 30 ≤ akL.length := by decide
          have := cnt_lt h
          rw [cnt_0 (by omega) z2] at h
          omega
    dsimp only
    congr 2
    apply List.map_congr_left
    intro j hj
    have hj2 := List.mem_range.mp hj
    cases hf : fp t j with
    | none => rfl
    | some q =>
      have := fp_ok false t h8 i h j hj2 q hf
      dsimp only
      rw [ha _ _ (cnt_ft this).2]
  | some q =>
    obtain ⟨e, n⟩ := q
    dsimp only
    by_cases z : e < 3
    · rw [if_pos z, if_pos z]
    · rw [if_neg z, if_neg z]
      have el57 : ∀ j, (el t i j).1 ≠ 57 := fun j => by
        unfold el
        split
        · exact (by decide : (32 : Nat) ≠ 57)
        · split <;> exact (by decide : (5 : Nat) ≠ 57)
      have f : (fun j => some (ad2 (el t i j).1 (el t i j).2)) = fun j => some (ad (el t i j).1 (el t i j).2) := funext fun j => by rw [ha _ _ (el57 j)]
      rw [f]
theorem pool_cg {cy : Nat → ClassId} {ad ad2 : Nat → Nat → Nat} {σ σ2 : Mem} (ha : ∀ t i, t ≠ 57 → ad2 t i = ad t i) (e : ∀ t i j, t ≠ 57 → σ2 t i j = σ t i j) : pool false cy ad2 σ2 = pool false cy ad σ := by
  unfold pool
  apply List.map_congr_left
  intro c hc
  have h := cs_cnt hc
  have z := (cnt_ft h).2
  rw [ha _ _ z, enc_cg h ha (fun j => e _ _ j z)]
/-- the pool with the row -/
theorem pool_true {cy : Nat → ClassId} {ad : Nat → Nat → Nat} {σ : Mem} : pool true cy ad σ = pool false cy ad σ ++ [(ad 57 0, .inl (cy 0, 16, .inl (fun j => Int32.ofInt (σ 57 0 (j : Int)))))] := by
  unfold pool
  rw [cs_true, List.map_append]
  rfl
theorem va_P_l {D : va_G} {w1 w2 : va_W} {H : Heap} (h : va_P D classes (w1 ++ w2) H) : va_P D classes w1 H := fun k q hq => h k q (by rw [List.getElem?_append_left (List.getElem?_eq_some_iff.mp hq).1]; exact hq)
theorem va_D_l {A : Nat → Prop} {w1 w2 : va_W} (h : va_D A (w1 ++ w2)) : va_D A w1 := ⟨fun i j p q a b c => h.1 i j p q (by rw [List.getElem?_append_left (List.getElem?_eq_some_iff.mp a).1]; exact a) (by rw [List.getElem?_append_left (List.getElem?_eq_some_iff.mp b).1]; exact b) c, fun k q hq => h.2 k q (by rw [List.getElem?_append_left (List.getElem?_eq_some_iff.mp hq).1]; exact hq)⟩
theorem Ok_f {D : va_G} {cy : Nat → ClassId} {ad : Nat → Nat → Nat} {A : Nat → Prop} {H0 H : Heap} {locs : List Loc} {σ : Mem} (h : Ok true D cy ad A H0 H locs σ) : Ok false D cy ad A H0 H locs σ := by
  obtain ⟨a, b, c⟩ := h
  rw [pool_true] at a
  exact ⟨va_P_l a, b, c⟩
/-- the row stands apart from the rest -/
theorem row_apart {B : Nat → Prop} {cy : Nat → ClassId} {ad : Nat → Nat → Nat} {σ : Mem} (h : va_D B (pool true cy ad σ)) : ¬ As false ad (ad 57 0) := by
  rintro ⟨t, i, a, b⟩
  obtain ⟨q1, c1, p1⟩ := pool_at (xx := true) cy ad σ (cnt_ft a).1
  obtain ⟨q2, c2, p2⟩ := pool_at (xx := true) cy ad σ (t := 57) (i := 0) (by decide)
  have e := h.1 q1 q2 _ _ p1 p2 b.symm
  subst e
  rw [c1] at c2
  cases c2
  exact (cnt_ft a).2 rfl
/-- args that a callee without the row may have -/
def okQ : List AV → Prop
  | [] => True
  | .inr (.inl c) :: r => c.1 ≠ 57 ∧ okQ r
  | _ :: r => okQ r
theorem okQ_f : ∀ {a : List AV}, okQ a → okS true a → okS false a := by
  intro a
  induction a with
  | nil => intro _ _ v hv; cases hv
  | cons v r ih =>
    intro hq hs
    obtain ⟨s1, s2⟩ := okS_cons hs
    rcases v with x | c | x
    · exact okS_push s1 (ih hq s2)
    · refine okS_push ?_ (ih hq.2 s2)
      rcases s1 with z | z
      · exact Or.inl (cnt_tf z hq.1)
      · exact Or.inr z
    · exact okS_push trivial (ih hq s2)
/-- a call in the presence of the row: the row stays -/
def M2 (T : Tr) : Tr := fun a σ K => okQ a ∧ T a σ (fun r σ1 => ∀ σ', (∀ t i j, t ≠ 57 → σ' t i j = σ1 t i j) → (∀ j, σ' 57 0 j = σ 57 0 j) → K r σ')
/-- σ1, but of σ the row -/
def rowOf (σ σ1 : Mem) : Mem := fun t i j => if t = 57 then σ 57 i j else σ1 t i j
section
variable {p : Program} {l : Launch} {e : Env} {R : Room} {s : State} {m : MethodId} {args : Array Value} {below : List Frame} {meth : Method} {c : Code} {cells slots : Nat} {Q : State → Prop} {D : va_G} {cy : Nat → ClassId} {ad : Nat → Nat → Nat} {A : Nat → Prop} {cc : ByteArray} {nL : Nat}
theorem call_on2 {H : Heap} {locs : List Loc} {g : JFrame} {rest : List Value} {a : Array Value} {K' : Option Int → Mem → Prop} {σ : Mem} (hA : ∀ q, As true ad q → A q) (hO : Ok true D cy ad A s.heap H locs σ) (hDD : va_D (fun _ => True) (pool true cy ad (fun _ _ _ => 0)))
    (hr : va_Run p l e R s m args below meth c H locs cells slots 0 0 g rest (Qz false D cy ad (fun r σ1 => ∀ σ', (∀ t i j, t ≠ 57 → σ' t i j = σ1 t i j) → (∀ j, σ' 57 0 j = σ 57 0 j) → K' r σ') a) (As false ad))
    (kk : ∀ r σ' H' locs', Ok true D cy ad A s.heap H' locs' σ' → (∀ x, r = some x → inR x) → K' r σ' → W p l e R s m args below meth c H' locs' cells slots Q { g with pc := g.pc + 3, stack := rV r ++ rest }) : W p l e R s m args below meth c H locs cells slots Q g := by
  intro T hT X
  obtain ⟨v, st₀, t, T', L, h0, X', hL, e1, e2, ⟨⟨r, σ1, hv, hri, hk, hw⟩, hz, hkp⟩, st⟩ := hr T hT X
  cases hv
  rw [h0] at hz hkp
  have hS := hO.2.1
  have o : ∀ t i j, t ≠ 57 → rowOf σ σ1 t i j = σ1 t i j := fun t i j z => by
    unfold rowOf
    rw [if_neg z]
  have o7 : ∀ j, rowOf σ σ1 57 0 j = σ 57 0 j := fun j => by
    unfold rowOf
    rw [if_pos rfl]
  have hP0 := hO.1
  rw [pool_true] at hP0
  have h57 := hP0 (pool false cy ad σ).length _ (by rw [List.getElem?_append_right (Nat.le_refl _), Nat.sub_self]; rfl)
  have ap := row_apart hDD
  have lt57 : ad 57 0 < H.size := h57.lt
  have hP : va_P D classes (pool true cy ad (rowOf σ σ1)) T'.heap := by
    rw [pool_true, pool_cg (ad := ad) (σ := σ1) (fun _ _ _ => rfl) o]
    refine va_P.app (by rw [e1]; exact hw.1) (fun k q hq => ?_)
    have hz : k < 1 := (List.getElem?_eq_some_iff.mp hq).1
    rw [show k = 0 by omega] at hq
    cases hq
    have f : (fun j : Nat => Int32.ofInt (rowOf σ σ1 57 0 (j : Int))) = fun j : Nat => Int32.ofInt (σ 57 0 (j : Int)) := funext fun j => by rw [o7]
    rw [f]
    exact h57.kept (by rw [e1]; exact hkp _ lt57 ap)
  obtain ⟨t2, a1, b1⟩ := kk r (rowOf σ σ1) T'.heap (locs ++ L) ⟨hP, ⟨Nat.le_trans hS.1 (by rw [e1]; exact hz), fun q h1 h2 => by rw [e1, hkp q (Nat.lt_of_lt_of_le h1 hS.1) (fun z => h2 (hA q (As_ft z)))]; exact hS.2.1 q h1 h2, fun q hq => by
    rcases List.mem_append.mp hq with h | h
    · exact hS.2.2 q h
    · exact hA _ (As_ft (hL q h))⟩, fun t i j => by
      unfold rowOf
      split
      · exact hO.2.2 _ _ _
      · exact hw.2.2.2.1 _ _ _⟩ hri (hk _ o o7) T' rfl X'
  exact ⟨t2, st t2 a1, b1⟩
theorem cr_V2 {own : String} {k n nn ci maxL : Nat} {y : MethodName} {bytes : ByteArray} {ret : Option FieldType} {T T' : Tr} (hx : p.tables.exec = Jvm.exec) (hb : c.code = cc) (hml : c.maxLocals = nL) (hown : s.vm.findClass own = some m.cls) (hts : ∀ w ∈ lw_g, w.before args s = true) (hK : va_K D classes (tysL cy) s) (hDD : va_D (fun _ => True) (pool true cy ad (fun _ _ _ => 0))) (hNw : ∀ w ∈ nw, va_Nw w s) (hA : ∀ q, As true ad q → A q) (hcs : cells ≤ R.cells) (hss : slots ≤ R.slots)
    (hM : Ct l y bytes maxL ret nn T) (hF : MF y bytes maxL ret ci n) (hl : Cond.methodLink own k y ∈ lw_g) (hR : nn + 1 ≤ R.frames ∧ 40 * nn + 40 ≤ R.locals) (hT2 : ∀ a σ K, T' a σ K → M2 T a σ K) : CR true p l e R s m args below meth c cells slots Q D cy ad A cc nL (.invokevirtual k) (n + 1) (rcv ci) T' := by
  intro pc H locs ls σ as rest K' hd hO hls hlen hok hrc hT hrest kk
  obtain ⟨⟨f1, f2, f3, f4⟩, ⟨q, f5, f6⟩, f7, f8⟩ := hF
  rcases as with _ | ⟨(x | ⟨t, i⟩ | x), as'⟩
  · exact hrc.elim
  · exact hrc.elim
  · have ht : t = ci := hrc
    subst ht
    obtain ⟨hq, hT⟩ := hT2 _ _ _ hT
    have hokf := okQ_f hq hok
    obtain ⟨hv, -⟩ := okS_cons hokf
    have h8 := (cls_ok _ _ f5).2.1
    have hOf := Ok_f hO
    have hDf : va_D (fun _ => True) (pool false cy ad (fun _ _ _ => 0)) := by
      rw [pool_true] at hDD
      exact va_D_l hDD
    obtain ⟨q0, hc0, hp0⟩ := pool_at cy ad σ (refN hv (by omega))
    rw [enc_obj h8] at hp0
    have hws : ∀ w ∈ wsV own k y.cls y (wz y bytes maxL ret), w ∈ lw_g := by
      intro w hw
      simp only [wsV, wz, List.mem_append, List.mem_cons, List.not_mem_nil, or_false] at hw
      rcases hw with (rfl | rfl | rfl | rfl) | (rfl | hw)
      · exact hl
      · exact f1
      · exact f2
      · exact f3
      · exact f4
      · exact hw
    have hcw : CallW R s args own y.cls k y bytes maxL ret (wz y bytes maxL ret) (rmD nn) 0 0 n := cwV n hts (good_sub hws) rfl rfl rfl ⟨rfl, f7⟩ ⟨hR.1, by show 8 + (maxL + 11) + 40 * nn ≤ R.locals; omega⟩
    have hrecv := va_recv hK hOf.1 f5 hp0
    rw [f6] at hrecv
    have hrun := va_runV (g := F0 m pc ls (((Sum.inr (Sum.inl (t, i)) :: as').reverse ++ rest).map (vV ad))) (rest := rest.map (vV ad)) (As := as'.map (vV ad)) (cells := cells) (slots := slots) (locs := locs) (below := below) (meth := meth) (e := e) ⟨hx, hb, hml, hown, hts⟩ (hM false D cy ad nn (Nat.le_refl _) _ σ _ hokf hT) hcw
      ⟨Wd.blind, hrecv, fun U hU hW => ⟨rfl, by rw [hU]; exact hOf.1, va_K.moved hW.alike hK, pool_D hDf σ, hO.2.2, nw_warm hW hNw⟩⟩ rfl (by simpa using hlen) hls (by simp [vV]) (lv_room (va_cat_le hrest)) hd ⟨hcs, hss⟩
    exact call_on2 (σ := σ) hA hO hDD hrun kk
  · exact hrc.elim
theorem cr_S2 {own : String} {k n nn maxL : Nat} {y : MethodName} {bytes : ByteArray} {ret : Option FieldType} {T T' : Tr} (hx : p.tables.exec = Jvm.exec) (hb : c.code = cc) (hml : c.maxLocals = nL) (hown : s.vm.findClass own = some m.cls) (hts : ∀ w ∈ lw_g, w.before args s = true) (hK : va_K D classes (tysL cy) s) (hDD : va_D (fun _ => True) (pool true cy ad (fun _ _ _ => 0))) (hNw : ∀ w ∈ nw, va_Nw w s) (hA : ∀ q, As true ad q → A q) (hcs : cells ≤ R.cells) (hss : slots ≤ R.slots)
    (hM : Ct l y bytes maxL ret nn T) (hF : SF y bytes maxL ret n) (hl : (y.cls = own ∧ Cond.methodLink own k y ∈ lw_g) ∨ ∃ host, Cond.methodLinkNest own k y host ∈ nw) (hR : nn + 1 ≤ R.frames ∧ 40 * nn + 40 ≤ R.locals) (hT2 : ∀ a σ K, T' a σ K → M2 T a σ K) : CR true p l e R s m args below meth c cells slots Q D cy ad A cc nL (.invokestatic k) n (fun _ => True) T' := by
  intro pc H locs ls σ as rest K' hd hO hls hlen hok _ hT hrest kk
  obtain ⟨⟨f1, f2, f3⟩, f7, f8⟩ := hF
  obtain ⟨hq, hT⟩ := hT2 _ _ _ hT
  have hokf := okQ_f hq hok
  have hOf := Ok_f hO
  have hDf : va_D (fun _ => True) (pool false cy ad (fun _ _ _ => 0)) := by
    have := hDD
    rw [pool_true] at this
    exact va_D_l this
  have hRR : (rmD nn).frames + 1 ≤ R.frames ∧ 8 + (maxL + 11) + (rmD nn).locals ≤ R.locals := ⟨hR.1, by show 8 + (maxL + 11) + 40 * nn ≤ R.locals; omega⟩
  have hp : PreS s H (va_Pc (as.map (vV ad)) (Wd false D cy ad σ)) (as.map (vV ad)) := ⟨Wd.blind, fun U hU hW => ⟨rfl, by rw [hU]; exact hOf.1, va_K.moved hW.alike hK, pool_D hDf σ, hO.2.2, nw_warm hW hNw⟩⟩
  rcases hl with ⟨hcl, hl⟩ | ⟨host, hl⟩
  · have hws : ∀ w ∈ wsS own k y (wz y bytes maxL ret), w ∈ lw_g := by
      intro w hw
      simp only [wsS, wz, List.mem_append, List.mem_cons, List.not_mem_nil, or_false] at hw
      rcases hw with (rfl | rfl | rfl) | (rfl | hw)
      · exact hl
      · exact f1
      · rw [← hcl]; exact f2
      · exact f3
      · exact hw
    have hrun := va_runS (g := F0 m pc ls ((as.reverse ++ rest).map (vV ad))) (rest := rest.map (vV ad)) (As := as.map (vV ad)) (cells := cells) (slots := slots) (locs := locs) (below := below) (meth := meth) (e := e) ⟨hx, hb, hml, hown, hts⟩ (hM false D cy ad nn (Nat.le_refl _) _ σ _ hokf hT) (cwS n hts (good_sub hws) rfl rfl rfl ⟨hcl, f7⟩ hRR) hp rfl (by simpa using hlen) hls (by simp) (lv_room (va_cat_le hrest)) hd ⟨hcs, hss⟩
    exact call_on2 (σ := σ) hA hO hDD hrun kk
  · have hws : ∀ w ∈ wz y bytes maxL ret, w ∈ lw_g := by
      intro w hw
      simp only [wz, List.mem_cons] at hw
      rcases hw with rfl | hw
      · exact f3
      · exact hw
    have hrun := va_runSN (host := host) (g := F0 m pc ls ((as.reverse ++ rest).map (vV ad))) (rest := rest.map (vV ad)) (As := as.map (vV ad)) (cells := cells) (slots := slots) (locs := locs) (below := below) (meth := meth) (e := e) ⟨hx, hb, hml, hown, hts⟩ (hM false D cy ad nn (Nat.le_refl _) _ σ _ hokf hT) ⟨va_cnB n hts (good_sub hws) rfl rfl rfl (hNw _ hl) (hts _ f2) f7 hRR, hts _ f1, trivial⟩ hp rfl (by simpa using hlen) hls (by simp) (lv_room (va_cat_le hrest)) hd ⟨hcs, hss⟩
    exact call_on2 (σ := σ) hA hO hDD hrun kk
end
