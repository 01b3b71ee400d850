/-! the law's cell -/
set_option maxRecDepth 100000 in
theorem c_cell (l : Launch) (b n : Nat) (xs : Nat → Int32) (i : Int) (i0 : 0 ≤ i) (i1 : i < 100000) (hn : n < 2 ^ 31) : Met l yL_cell (wz yL_cell cL_cell 2 (some .int)) (rmD 0) (va_Pc [.ref b, .int (Int32.ofInt i)] (fun U => va_X b n xs U U.heap)) (fun _ st o t => (∃ x : Int32, o = .returned (some (.int x))) ∧ t.heap = st.heap) 0 0 (fun _ => False) := by
  refine Met.ofW (cc := cL_cell) (maxL := 2) (ret := some .int) (by decide +kernel) rfl ?_
  intro p e s m args below meth c s₁ B hml hv
  obtain ⟨rfl, hX⟩ := hv
  have hx := B.exec
  have hb := B.bytes
  have hr := B.returns
  have hts0 := atoms_spec (ws := wz yL_cell cL_cell 2 (some .int)) B.pre
  have hts : ∀ w ∈ lw_g, w.before ([Value.ref b, .int (Int32.ofInt i)]).toArray s = true := fun w hw => hts0 w (List.mem_cons_of_mem _ hw)
  have hown : s.vm.findClass RL = some m.cls := findClass_of_methodNamed B.named
  have hlocks := B.notSynchronized
  have hbl : b < s.heap.size := by
    obtain ⟨scr, h1, -⟩ := hX
    exact (Array.getElem?_eq_some_iff.mp h1).1
  have ri : inR i := by constructor <;> omega
  have rn : inR (n : Int) := by constructor <;> omega
  have hl := lv_entry ([.ref b, .int (Int32.ofInt i)]) (n := 2) (Nat.le_of_ble_eq_true rfl)
  rw [lg_entry_eq]
  generalize (lg_sl ([.ref b, .int (Int32.ofInt i)]) ++ List.replicate (2 - (lg_sl ([.ref b, .int (Int32.ofInt i)])).length) Slot.unset).toArray = ls at hl ⊢
  have hl : lv_has ls 2 [(0, .ref b), (1, .int (Int32.ofInt i))] := hl
  have fin : ∀ x : Int32, W p l e (headSpec (wz yL_cell cL_cell 2 (some .int)) (rmD 0)).room s m ([Value.ref b, .int (Int32.ofInt i)]).toArray below meth c s.heap [] 0 0 (MQ below (fun _ st o t => (∃ x : Int32, o = .returned (some (.int x))) ∧ t.heap = st.heap) ([Value.ref b, .int (Int32.ofInt i)]).toArray s 0 0 (fun _ => False)) (F0 m 20 ls [.int x]) := fun x => W.iret hx hb hr (fun t ht _ => ⟨⟨x, rfl⟩, ht⟩) (fun q hq => by cases hq) (by decide +kernel : decode cL_cell 20 = .ok (.ireturn, 1))
  refine lv_iload_n hx hb (by decide +kernel : decode cL_cell 0 = .ok (.iload_n 1, 1)) rfl (lv_at hl 1 rfl) ?_
  refine lv_aload_n hx hb (by decide +kernel : decode cL_cell 1 = .ok (.aload_n 0, 1)) rfl (lv_at hl 0 rfl) ?_
  refine va_slen (H0 := s.heap) (A := fun _ => False) hx hb hX hbl id va_S.rf (by decide +kernel : decode cL_cell 2 = .ok (.arraylength, 1)) ?_
  refine lv_icmp_ge (off := 9) (tgt := 12) hx hb (by decide +kernel : decode cL_cell 3 = .ok (.if_icmp .ge 9, 3)) rfl (fun _ => ?_) (fun hlt => ?_)
  · refine W.ldc (v := Int32.ofInt 73244475) hx hb hown (hts _ (cstL_ok.1 7 73244475 rfl).2) rfl (by decide +kernel : decode cL_cell 12 = .ok (.ldc 7, 2)) ?_
    refine W.eq (g2 := F0 m 14 ls [.int (Int32.ofInt 73244475)]) rfl ?_
    refine lv_iload_n hx hb (by decide +kernel : decode cL_cell 14 = .ok (.iload_n 1, 1)) rfl (lv_at hl 1 rfl) ?_
    refine lv_sipush (v := 1601) hx hb (by decide +kernel : decode cL_cell 15 = .ok (.sipush 1601, 3)) (by decide) ?_
    refine lv_iadd hx hb (by decide +kernel : decode cL_cell 18 = .ok (.iadd, 1)) ?_
    refine lv_imul hx hb (by decide +kernel : decode cL_cell 19 = .ok (.imul, 1)) ?_
    exact fin _
  · have lt : i < (n : Int) := Classical.byContradiction (fun h => hlt ((oLe rn ri).mpr (by omega)))
    refine lv_aload_n hx hb (by decide +kernel : decode cL_cell 6 = .ok (.aload_n 0, 1)) rfl (lv_at hl 0 rfl) ?_
    refine lv_iload_n hx hb (by decide +kernel : decode cL_cell 7 = .ok (.iload_n 1, 1)) rfl (lv_at hl 1 rfl) ?_
    refine va_sld (H0 := s.heap) (A := fun _ => False) hx hb hX hbl id va_S.rf (vp_inO i0 lt hn) (by decide +kernel : decode cL_cell 8 = .ok (.iaload, 1)) ?_
    refine lv_goto (off := 11) (tgt := 20) hx hb (by decide +kernel : decode cL_cell 9 = .ok (.goto 11, 3)) rfl ?_
    exact fin _
def T_L_cell : Tr := fun a σ K => match a with
  | [.inr (.inl (56, 0)), .inl i] => (0 ≤ i ∧ i < 100000) ∧ ∀ x, inR x → K (some x) σ
  | _ => False
section
variable {p : Program} {l : Launch} {e : Env} {R : Room} {s : State} {m : MethodId} {args : Array Value} {below : List Frame} {meth : Method} {c : Code} {cells slots : Nat} {Q : State → Prop} {D : va_G} {cy : Nat → ClassId} {ad : Nat → Nat → Nat} {A : Nat → Prop} {cc : ByteArray} {nL : Nat}
theorem cr_cell (hx : p.tables.exec = Jvm.exec) (hb : c.code = cc) (hml : c.maxLocals = nL) (hown : s.vm.findClass RL = some m.cls) (hts : ∀ w ∈ lw_g, w.before args s = true) (hcs : cells ≤ R.cells) (hss : slots ≤ R.slots) (hR : 1 ≤ R.frames ∧ 40 ≤ R.locals) {n : Nat} {xs : Nat → Int32} (hn : n < 2 ^ 31) (hX : va_X (ad 56 0) n xs s s.heap) (hbl : ad 56 0 < s.heap.size) (hbA : ¬ A (ad 56 0)) : CR false p l e R s m args below meth c cells slots Q D cy ad A cc nL (.invokestatic 12) 2 (fun _ => True) T_L_cell := by
  intro pc H locs ls σ as rest K' hd hO hls hlen hok _ hT hrest kk
  unfold T_L_cell at hT
  split at hT
  · rename_i i
    obtain ⟨⟨i0, i1⟩, hk⟩ := hT
    have hXH : va_X (ad 56 0) n xs s H := hX.kept (hO.2.1.2.1 _ hbl hbA)
    have hp : PreS s H (va_Pc [.ref (ad 56 0), .int (Int32.ofInt i)] (fun U => va_X (ad 56 0) n xs U U.heap)) [.ref (ad 56 0), .int (Int32.ofInt i)] := ⟨fun a U g mk h => ⟨h.1, va_X.moved (u := U) (U := U.calling g mk a) (Vm.Alike.refl U.vm) h.2⟩, fun U hU hW => ⟨rfl, by
      show va_X (ad 56 0) n xs U U.heap
      rw [hU]
      exact va_X.moved hW.alike hXH⟩⟩
    obtain ⟨⟨f1, f2, f3⟩, f7, f8⟩ := FL_cell
    have hws : ∀ w ∈ wsS RL 12 yL_cell (wz yL_cell cL_cell 2 (some .int)), w ∈ lw_g := by
      intro w hw
      simp only [wsS, wz, List.mem_append, List.mem_cons, List.not_mem_nil, or_false] at hw
      rcases hw with (rfl | rfl | rfl) | (rfl | hw)
      · exact KRL_12
      · exact f1
      · exact f2
      · exact f3
      · exact hw
    have hrun := va_runS (g := F0 m pc ls (([Sum.inr (Sum.inl (56, 0)), Sum.inl i].reverse ++ rest).map (vV ad))) (rest := rest.map (vV ad)) (As := [.ref (ad 56 0), .int (Int32.ofInt i)]) (cells := cells) (slots := slots) (locs := locs) (below := below) (meth := meth) (e := e) ⟨hx, hb, hml, hown, hts⟩ (c_cell l (ad 56 0) n xs i i0 i1 hn) (cwS 2 hts (good_sub hws) rfl rfl rfl ⟨rfl, f7⟩ ⟨hR.1, by show 8 + (2 + 11) + 40 * 0 ≤ R.locals; omega⟩) hp rfl rfl hls (by simp [vV]) (lv_room (va_cat_le hrest)) hd ⟨hcs, hss⟩
    intro T hT X
    obtain ⟨v, st₀, t, T', L, h0, X', hL, e1, e2, ⟨⟨x, hv⟩, hh⟩, st⟩ := hrun T hT X
    cases hv
    have eH : T'.heap = H := by rw [e1, hh, h0]
    obtain ⟨t2, a1, b1⟩ := kk (some x.toInt) σ H (locs ++ L) ⟨hO.1, ⟨hO.2.1.1, hO.2.1.2.1, fun q hq => (List.mem_append.mp hq).elim (hO.2.1.2.2 q) (fun h => (hL q h).elim)⟩, hO.2.2⟩ (fun y hy => by cases hy; exact inR_t x) (hk _ (inR_t x)) T' eH X'
    rw [show rV (some x.toInt) = [Value.int x] by show [Value.int (Int32.ofInt x.toInt)] = _; rw [oT]] at a1
    exact ⟨t2, st t2 a1, b1⟩
  · exact hT.elim
/-- a call of a method that makes a row: two numbers more of the room -/
theorem cr_N {k n nn maxL : Nat} {y : MethodName} {bytes : ByteArray} {ret : Option FieldType} {T : Tr} (hx : p.tables.exec = Jvm.exec) (hb : c.code = cc) (hml : c.maxLocals = nL) (hown : s.vm.findClass RL = some m.cls) (hts : ∀ w ∈ lw_g, w.before args s = true) (hK : va_K D classes (tysL cy) s) (hDD : va_D (fun _ => True) (pool false cy ad (fun _ _ _ => 0))) (hNw : ∀ w ∈ nw, va_Nw w s) (hA : ∀ q, As false ad q → A q) (hA2 : ∀ q, s.heap.size ≤ q → A q) (hcs : cells + 1 ≤ R.cells) (hss : slots + 16 ≤ R.slots)
    (hM : CtN l y bytes maxL ret nn T) (hF : SF y bytes maxL ret n) (hcl : y.cls = RL) (hl : Cond.methodLink RL k y ∈ lw_g) (hR : nn + 1 ≤ R.frames ∧ 40 * nn + 40 ≤ R.locals) {pc : Nat} {H : Heap} {locs : List Loc} {ls : Array Slot} {σ : Mem} {as rest : List AV} {K' : Option Int → Mem → Prop} (hd : decode cc pc = .ok (.invokestatic k, 3)) (hO : Ok false D cy ad A s.heap H locs σ) (hls : ls.size = nL) (hlen : as.length = n) (hok : okS false as) (hT : T as σ K') (hrest : rest.length ≤ 4)
    (kk : ∀ r σ' H' locs', Ok false D cy ad A s.heap H' locs' σ' → (∀ x, r = some x → inR x) → K' r σ' → W p l e R s m args below meth c H' locs' (cells + 1) (slots + 16) Q (F0 m (pc + 3) ls (rV r ++ rest.map (vV ad)))) : W p l e R s m args below meth c H locs cells slots Q (F0 m pc ls ((as.reverse ++ rest).map (vV ad))) := by
  obtain ⟨⟨f1, f2, f3⟩, f7, f8⟩ := hF
  have hp : PreS s H (va_Pc (as.map (vV ad)) (fun U => U.heap.size = H.size ∧ Wd false D cy ad σ U)) (as.map (vV ad)) := ⟨fun a U g mk h => ⟨h.1, h.2.1, (Wd.blind a U g mk ⟨h.1, h.2.2⟩).2⟩, fun U hU hW => ⟨rfl, by rw [hU], by rw [hU]; exact hO.1, va_K.moved hW.alike hK, pool_D hDD σ, hO.2.2, nw_warm hW hNw⟩⟩
  have hws : ∀ w ∈ wsS RL k y (wz y bytes maxL ret), w ∈ lw_g := by
    intro w hw
    simp only [wsS, wz, List.mem_append, List.mem_cons, List.not_mem_nil, or_false] at hw
    rcases hw with (rfl | rfl | rfl) | (rfl | hw)
    · exact hl
    · exact f1
    · rw [← hcl]; exact f2
    · exact f3
    · exact hw
  have hrun := va_runS (g := F0 m pc ls ((as.reverse ++ rest).map (vV ad))) (rest := rest.map (vV ad)) (As := as.map (vV ad)) (cells := cells) (slots := slots) (locs := locs) (below := below) (meth := meth) (e := e) ⟨hx, hb, hml, hown, hts⟩ (hM H.size D cy ad nn (Nat.le_refl _) _ σ K' hok hT) (cwS n hts (good_sub hws) rfl rfl rfl ⟨hcl, f7⟩ ⟨hR.1, by show 8 + (maxL + 11) + 40 * nn ≤ R.locals; omega⟩) hp rfl (by simpa using hlen) hls (by simp) (lv_room (va_cat_le hrest)) hd ⟨hcs, hss⟩
  intro T hT X
  obtain ⟨v, st₀, t, T', L, h0, X', hL, e1, e2, ⟨⟨r, σ', hv, hri, hk, hw⟩, hz, hkp⟩, st⟩ := hrun T hT X
  cases hv
  rw [h0] at hz hkp
  have hS := hO.2.1
  obtain ⟨t2, a1, b1⟩ := kk r σ' T'.heap (locs ++ L) ⟨by rw [e1]; exact hw.1, ⟨Nat.le_trans hS.1 (by rw [e1]; exact hz), fun q h1 h2 => by rw [e1, hkp q (Nat.lt_of_lt_of_le h1 hS.1) (fun z => h2 (hA q z))]; exact hS.2.1 q h1 h2, fun q hq => by
    rcases List.mem_append.mp hq with h | h
    · exact hS.2.2 q h
    · exact (hL q h).elim (hA _) (fun z => hA2 _ (Nat.le_trans hS.1 z))⟩, hw.2.2.2.1⟩ hri hk T' rfl X'
  exact ⟨t2, st t2 a1, b1⟩
end
