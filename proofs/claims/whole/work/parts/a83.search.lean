/-! arrays of arrays: 25 rows of 16 -/
def kyAM (U : State) : Prop := (Cond.arrayOver (.array .int)).before #[] U = true
theorem kyAM.use {a : Array Value} {U : State} (h : kyAM U) : (Cond.arrayOver (.array .int)).before a U = true := h
theorem kyAM.moved {u U : State} (hvm : u.vm.Alike U.vm) (h : kyAM u) : kyAM U := Jvm.Stand.arrayOver_alikeB hvm h
def kyRows (cy : Nat → ClassId) (q : Nat) : va_W := (q, .inl (cy 4, 25, .inr (.inr (.inr (.inr (fun j => some (q + 1 + j))))))) :: (List.range 25).map (fun j => (q + 1 + j, .inl (cy 0, 16, .inl (fun _ => 0))))
theorem kyRows_at {cy : Nat → ClassId} {q k : Nat} {x : Nat × va_E} (h : (kyRows cy q)[k]? = some x) : k < 26 ∧ x.1 = q + k := by
  unfold kyRows at h
  cases k with
  | zero => exact ⟨by omega, by cases h; rfl⟩
  | succ k =>
    rw [List.getElem?_cons_succ, List.getElem?_map] at h
    by_cases hk : k < 25
    · rw [List.getElem?_range hk] at h
      obtain rfl := Option.some.inj h
      exact ⟨by omega, by show q + 1 + k = q + (k + 1); omega⟩
    · rw [List.getElem?_eq_none (by simpa using hk)] at h
      cases h
theorem ky_outer0 (c : ClassId) (h : Nat) : ∀ i : Nat, Jvm.Free.Multi.outerC c 25 h i = arrV c 25 (fun j => if j < i then .ref (h + 1 + j) else .null)
  | 0 => by
    show ({ cls := c, slots := Array.replicate 25 .null, vm := .none } : Cell) = _
    rw [arrV_new]
    exact congrArg (arrV c 25) (funext fun j => (if_neg (Nat.not_lt_zero j)).symm)
  | i + 1 => by
    show (Jvm.Free.Multi.outerC c 25 h i).setSlot i (.ref (h + 1 + i)) = _
    rw [ky_outer0 c h i, arrV_store]
    refine congrArg (arrV c 25) (funext fun j => ?_)
    unfold updV
    by_cases e : j = i
    · subst e
      rw [if_pos (Nat.lt_succ_self j)]
      simp
    · by_cases h1 : j < i
      · rw [if_pos (show j < i + 1 by omega)]
        simp [e, h1]
      · rw [if_neg (show ¬ j < i + 1 by omega)]
        simp [e, h1]
theorem ky_outer (c : ClassId) (h : Nat) : Jvm.Free.Multi.outerC c 25 h 25 = arrV c 25 (fun j => va_rf (some (h + 1 + j))) := by
  rw [ky_outer0]
  unfold arrV
  congr 2
  funext j
  show (if j.val < 25 then Value.ref (h + 1 + j.val) else .null) = va_rf (some (h + 1 + j.val))
  rw [if_pos j.isLt]
  rfl
theorem va_multi {p : Program} {l : Launch} {e : Env} {R : Room} {s : State} {m : MethodId} {args : Array Value} {below : List Frame} {meth : Method} {c : Code} {cells slots : Nat} {Q : State → Prop} {D : va_G} {cy : Nat → ClassId} {A : Nat → Prop} {cc : ByteArray} {ws : va_W} {H H0 : Heap} {locs : List Loc} {ls : Array Slot} {rest : List Value} {pc index : Nat}
    (hexec : p.tables.exec = Jvm.exec) (hb : c.code = cc) {own : String} (hown : s.vm.findClass own = some m.cls) (hclink : (Cond.classLink own index "[[I").before args s = true) (hover : (Cond.arrayOver (.array .int)).before args s = true) (harr : (Cond.arrayClass .int).before args s = true) (hK : va_K D classes (tysL cy) s) (hP : va_P D classes ws H) (hD : va_D A ws) (hS : va_S A H0 H locs) (hA : ∀ q, H0.size ≤ q → A q) (hcells : cells + 26 ≤ R.cells) (hslots : slots + 425 ≤ R.slots) (hdg : decode cc pc = .ok (.multianewarray index 2, 4))
    (kk : ∀ (q : Nat) (H1 : Heap), va_P D classes (ws ++ kyRows cy q) H1 → va_D A (ws ++ kyRows cy q) → va_S A H0 H1 locs → W p l e R s m args below meth c H1 locs (cells + 26) (slots + 425) Q (F0 m (pc + 4) ls (.ref q :: rest))) : W p l e R s m args below meth c H locs cells slots Q (F0 m pc ls (.int 16 :: .int 25 :: rest)) := by
  intro T hT X
  subst hT
  have e25 : (25 : Int32).toNatClampNeg = 25 := by decide
  have e16 : (16 : Int32).toNatClampNeg = 16 := by decide
  obtain ⟨vm₁, cA, comp, hW, hfA, hfC, -, -, X1, step⟩ := X.multianewarray2F hexec hown (ty := .int) hclink hover harr (g := F0 m pc ls (.int 16 :: .int 25 :: rest)) rfl (by rw [hb]; exact hdg) (n := 25) (k := 16) (rest := rest) rfl (by decide) (by decide) (by decide) (by decide) (by decide) rfl rfl (by rw [e25]; omega) (by rw [e25, e16]; omega)
  rw [e25, e16] at X1 step
  have hA4 : s.vm.findClass ("[" ++ (FieldType.array .int).toString) = some (cy 4) := (hK.2 4 _ rfl).2
  have hA0 : s.vm.findClass (FieldType.array .int).toString = some (cy 0) := (hK.2 0 _ rfl).2
  obtain rfl : cy 4 = cA := Option.some.inj (hA4.symm.trans hfA)
  obtain rfl : cy 0 = comp := Option.some.inj (hA0.symm.trans hfC)
  obtain ⟨f1, f2, -, -⟩ := Jvm.Free.Multi.fill_facts (T.setVm vm₁) (cy 4) (cy 0) 25 16 (defaultValue .int) 25
  have fo := fun (a : Addr) (ha : a < T.heap.size) => Jvm.Free.Multi.fill_old (T.setVm vm₁) (cy 4) (cy 0) 25 16 (defaultValue .int) (a := a) ha 25
  have fi := fun (j : Nat) (hj : j < 25) => Jvm.Free.Multi.fill_inner (T.setVm vm₁) (cy 4) (cy 0) 25 16 (defaultValue .int) 25 j hj
  have hz : (T.setVm vm₁).heap = T.heap := rfl
  rw [hz] at f1 f2
  simp only [hz] at fo fi
  have h1 : cells + 1 + 25 = cells + 26 := by omega
  have h2 : slots + 25 + 25 * 16 = slots + 425 := by omega
  rw [h1, h2] at X1
  generalize Jvm.Free.Multi.fill (T.setVm vm₁) (cy 4) (cy 0) 25 16 (defaultValue .int) 25 = F at X1 step f1 f2 fo fi
  have hP2 : va_P D classes (kyRows cy T.heap.size) F.heap := by
    intro k x hx
    obtain ⟨h26, -⟩ := kyRows_at hx
    cases k with
    | zero =>
      cases hx
      show F.heap[T.heap.size]? = some (vp_cell _ _)
      rw [f2, vp_cell_q, ky_outer]
    | succ k =>
      have hk : k < 25 := by omega
      unfold kyRows at hx
      rw [List.getElem?_cons_succ, List.getElem?_map, List.getElem?_range hk] at hx
      obtain rfl := Option.some.inj hx
      show F.heap[T.heap.size + 1 + k]? = some (vp_cell _ _)
      rw [fi k hk, vp_cell_i, ← arrV_new]
      rfl
  have hD2 : va_D A (kyRows cy T.heap.size) := by
    refine ⟨fun i j x y hi hj he => ?_, fun k x hk => ?_⟩
    · have := (kyRows_at hi).2
      have := (kyRows_at hj).2
      omega
    · exact hA _ (by rw [(kyRows_at hk).2]; have := hS.1; omega)
  have hx2 : ∀ (i j : Nat) (x y : Nat × va_E), ws[i]? = some x → (kyRows cy T.heap.size)[j]? = some y → x.1 ≠ y.1 := by
    intro i j x y hi hj he
    have h3 := (kyRows_at hj).2
    have h4 := (hP i x hi).lt
    omega
  obtain ⟨t, a1, b1⟩ := kk T.heap.size F.heap ((hP.kept (fun k x hx => fo x.1 (hP k x hx).lt)).app hP2) (va_D.app hD hD2 hx2) ⟨Nat.le_trans hS.1 (by rw [f1]; omega), fun x a b => (fo x (Nat.lt_of_lt_of_le a hS.1)).trans (hS.2.1 x a b), hS.2.2⟩ F rfl X1
  exact ⟨t, step t a1, b1⟩
theorem kyRows_eq {cy : Nat → ClassId} {ad : Nat → Nat → Nat} {i : Nat} (h : ∀ j, ad 32 (25 * i + j) = ad 31 i + 1 + j) : kyW cy ad ((31, i) :: (List.range 25).map (fun j => (32, 25 * i + j))) = kyRows cy (ad 31 i) := by
  unfold kyW kyRows
  rw [List.map_cons, List.map_map]
  congr 1
  · show (ad 31 i, Sum.inl (cy 4, 25, _)) = _
    have : (fun j => some (ad (el 31 i j).1 (el 31 i j).2)) = (fun j => some (ad 31 i + 1 + j)) := by
      funext j
      exact congrArg some (h j)
    exact congrArg (fun f : Nat → Option Nat => ((ad 31 i, Sum.inl (cy 4, 25, Sum.inr (Sum.inr (Sum.inr (Sum.inr f))))) : Nat × va_E)) this
  · refine List.map_congr_left (fun j hj => ?_)
    show (ad 32 (25 * i + j), Sum.inl (cy 0, 16, _)) = _
    rw [h j]
    rfl
abbrev kkX4 (i : Nat) : List (Nat × Nat) := ((((([(4, i)] ++ kkX1 (i + 2)) ++ [(27, i)]) ++ [(28, i)]) ++ [(29, i)]) ++ [(30, i)]) ++ ((31, i) :: (List.range 25).map (fun j => (32, 25 * i + j)))
abbrev at_X4 (D : va_G) (cy : Nat → ClassId) (A : Nat → Prop) (h0 i : Nat) (u : Unit) (t : State) : Prop := ∃ ad : Nat → Nat → Nat, ad 4 i = h0 ∧ va_P D classes (kyW cy ad (kkX4 i)) t.heap ∧ va_D A (kyW cy ad (kkX4 i))
set_option maxHeartbeats 8000000 in
set_option maxRecDepth 100000 in
theorem c_X4_init (l : Launch) (D : va_G) (cy : Nat → ClassId) (h0 sz i : Nat) : Met l yX4_init (wz yX4_init cX4_init 1 none) ({ frames := 2, cells := 43, slots := 648, locals := 120 }) (va_Pc [.ref h0] (fun U => U.heap.size = sz ∧ va_P D classes [(h0, .inr (4, [.null, .int 0, .int 0, .null, .null, .null, .null, .null]))] U.heap ∧ va_K D classes (tysL cy) U ∧ va_D (fun _ => True) [(h0, .inr (4, [.null, .int 0, .int 0, .null, .null, .null, .null, .null]))] ∧ (∀ w ∈ nw, va_Nw w U) ∧ kyAM U)) (va_Qv (fun _ : Unit => True) (at_X4 D cy (va_A [(h0, .inr (4, [.null, .int 0, .int 0, .null, .null, .null, .null, .null]))] sz) h0 i) (va_A [(h0, .inr (4, [.null, .int 0, .int 0, .null, .null, .null, .null, .null]))] sz)) 43 648 (va_A [(h0, .inr (4, [.null, .int 0, .int 0, .null, .null, .null, .null, .null]))] sz) := by
  refine Met.ofW (cc := cX4_init) (maxL := 1) (ret := none) (by decide +kernel) rfl ?_
  intro p e s m args below meth c s₁ B hml hv
  obtain ⟨rfl, hsz, hP, hK, hD0, hNw, hAM⟩ := hv
  have hx := B.exec
  have hb := B.bytes
  have hr := B.returns
  have hts0 := atoms_spec (ws := wz yX4_init cX4_init 1 none) B.pre
  have hts : ∀ w ∈ lw_g, w.before ([Value.ref h0]).toArray s = true := fun w hw => hts0 w (List.mem_cons_of_mem _ hw)
  have hown : s.vm.findClass RX4 = some m.cls := findClass_of_methodNamed B.named
  have hin : meth.name = "<init>" := (name_of_methodNamed B.named B.method).1
  subst hsz
  have hD := hD0.self (sz := s.heap.size)
  generalize hAe : va_A [(h0, .inr (4, [.null, .int 0, .int 0, .null, .null, .null, .null, .null]))] s.heap.size = A at hD ⊢
  have hA : ∀ q : Nat, s.heap.size ≤ q → A q := fun q h => by rw [← hAe]; exact Or.inr h
  have hS : va_S A s.heap s.heap [] := va_S.rf
  have hl := lv_entry ([.ref h0]) (n := 1) (Nat.le_of_ble_eq_true rfl)
  rw [lg_entry_eq]
  generalize (lg_sl ([.ref h0]) ++ List.replicate (1 - (lg_sl ([.ref h0])).length) Slot.unset).toArray = ls at hl ⊢
  have hl : lv_has ls 1 [(0, .ref h0)] := hl
  refine lv_aload_n hx hb (by decide +kernel : decode cX4_init 0 = .ok (.aload_n 0, 1)) rfl (lv_at hl 0 rfl) ?_
  refine W.objInit hx hb hown (hts _ (mg 282 (by decide +kernel) rfl)) (hts _ (mg 111 (by decide +kernel) rfl)) (hts _ (mg 112 (by decide +kernel) rfl)) rfl (by rw [hml]; exact hl.1) rfl (by decide +kernel : decode cX4_init 1 = .ok (.invokespecial 3, 3)) (Nat.le_of_ble_eq_true rfl) (Nat.le_of_ble_eq_true rfl) ?_
  refine W.eq (g2 := F0 m 4 ls []) rfl ?_
  refine lv_aload_n hx hb (by decide +kernel : decode cX4_init 4 = .ok (.aload_n 0, 1)) rfl (lv_at hl 0 rfl) ?_
  refine va_new (ci := 1) (fs := [.null, .null, .null, .null, .null, .null, .null, .null, .int 0, .int 0, .null, .int 0, .null, .null, .null]) (C := RX1) (T := TX1) (N := 15) hx hb hts wsIn1 tyX1 tyX1_ok hown (hts _ (mg 283 (by decide +kernel) rfl)) (hts _ (mg 205 (by decide +kernel) rfl)) (hts _ inRX1) hK hP hD hS hA rfl (fun j hj => by rcases (show j = 0 ∨ j = 1 ∨ j = 2 ∨ j = 3 ∨ j = 4 ∨ j = 5 ∨ j = 6 ∨ j = 7 ∨ j = 8 ∨ j = 9 ∨ j = 10 ∨ j = 11 ∨ j = 12 ∨ j = 13 ∨ j = 14 by omega) with rfl | rfl | rfl | rfl | rfl | rfl | rfl | rfl | rfl | rfl | rfl | rfl | rfl | rfl | rfl <;> rfl) (by decide) (by decide) (by decide +kernel : decode cX4_init 5 = .ok (.new 9, 3)) (fun hn H hP hD hS => ?_)
  have hP : va_P D classes [(h0, .inr (4, [.null, .int 0, .int 0, .null, .null, .null, .null, .null])), (hn, .inr (1, [.null, .null, .null, .null, .null, .null, .null, .null, .int 0, .int 0, .null, .int 0, .null, .null, .null]))] H := hP
  have hD : va_D A [(h0, .inr (4, [.null, .int 0, .int 0, .null, .null, .null, .null, .null])), (hn, .inr (1, [.null, .null, .null, .null, .null, .null, .null, .null, .int 0, .int 0, .null, .int 0, .null, .null, .null]))] := hD
  refine lv_dup hx hb (by decide +kernel : decode cX4_init 8 = .ok (.dup, 1)) rfl ?_
  have hPc := hP.sub (ws' := [(hn, .inr (1, [.null, .null, .null, .null, .null, .null, .null, .null, .int 0, .int 0, .null, .int 0, .null, .null, .null]))]) [1] rfl
  have hDc := hD.sub (ws' := [(hn, .inr (1, [.null, .null, .null, .null, .null, .null, .null, .null, .int 0, .int 0, .null, .int 0, .null, .null, .null]))]) [1] (by decide) rfl
  have hKc := hK.sub (tys' := []) [] rfl
  have hFc := va_free (wc := [(hn, .inr (1, [.null, .null, .null, .null, .null, .null, .null, .null, .int 0, .int 0, .null, .int 0, .null, .null, .null]))]) hD hS hA [1] rfl
  refine va_callv (va_runIN (host := "BottleneckShop") (As := []) (rest := [.ref hn, .ref h0]) ⟨hx, hb, hml, hown, hts⟩ (c_X1_init l D hn H.size) ⟨va_cnB 0 hts (good_sub (fun w hw => (List.mem_cons.mp hw).elim (fun h => by rw [h]; exact mg 208 rfl rfl) (fun h => h))) rfl rfl rfl (hNw _ KRX4_11) (hts _ inRX1) ⟨by decide +kernel, by decide +kernel, by decide +kernel⟩ ⟨Nat.le_of_ble_eq_true rfl, Nat.le_of_ble_eq_true rfl⟩, rfl, (hts _ (mg 207 (by decide +kernel) rfl))⟩ ⟨fun a U g mk q => by obtain ⟨q0, q1, qP, qK, qD⟩ := q; exact ⟨q0, q1, qP, va_K.moved (u := U) (U := U.calling g mk a) (Vm.Alike.refl U.vm) qK, qD⟩, fun U hU hW => ⟨rfl, by rw [hU], by rw [hU]; exact hPc, va_K.moved hW.alike hKc, hDc.weaken (fun _ _ _ _ => trivial)⟩⟩ rfl rfl hl.1 rfl (lv_room (Nat.le_of_ble_eq_true rfl)) (by decide +kernel : decode cX4_init 9 = .ok (.invokespecial 11, 3)) ⟨by decide, by decide⟩) hS (fun q _ h => hFc q h) hFc (fun u t H1 locs ht hvm hu hB hz1 hk1 hS => ?_)
  obtain ⟨an, fn, hP1, hD1⟩ := tk_X1 (i + 2) hK hvm hB
  rw [ht] at hP1
  obtain ⟨hP, hD⟩ := va_join (wr := [(h0, .inr (4, [.null, .int 0, .int 0, .null, .null, .null, .null, .null]))]) (w1 := kyW cy an (kkX1 (i + 2))) hP hD [1] [0] rfl rfl (by decide) (by decide) hk1 hFc hP1 hD1
  generalize H1 = H at hP hS ⊢
  refine va_putF (D := D) (ci := 4) (v := .ref hn) (ty := .object RX1) (C := RX4) (T := TX4) (N := 8) hx hb hts wsIn4 tyX4 tyX4_ok nmX4 hown hK hP hD hS 0 rfl rfl 0 (by decide) (hts _ (mg 287 (by decide +kernel) rfl)) (fun _ h9 => h9) rfl hin rfl (by decide +kernel) rfl rfl (Nat.le_of_ble_eq_true rfl) (by decide +kernel : decode cX4_init 12 = .ok (.putfield 12, 3)) (fun H locs hP hD hS => ?_)
  have hP : va_P D classes ([(h0, .inr (4, [.ref hn, .int 0, .int 0, .null, .null, .null, .null, .null]))] ++ kyW cy an (kkX1 (i + 2))) H := hP
  have hD : va_D A ([(h0, .inr (4, [.ref hn, .int 0, .int 0, .null, .null, .null, .null, .null]))] ++ kyW cy an (kkX1 (i + 2))) := hD
  refine lv_aload_n hx hb (by decide +kernel : decode cX4_init 15 = .ok (.aload_n 0, 1)) rfl (lv_at hl 0 rfl) ?_
  refine lv_bipush (v := 16) hx hb (by decide +kernel : decode cX4_init 16 = .ok (.bipush 16, 2)) (by decide) ?_
  refine va_newa (a0 := (16, .inl (fun _ => 0))) (N' := 16) (ty := .int) hx hb (hts _ (mg 161 (by decide +kernel) rfl)) rfl hK hP hD hS hA (fun _ => rfl) (by decide) (by decide) (by decide) (by decide) (by decide) (by decide +kernel : decode cX4_init 18 = .ok (.newarray .int, 2)) (fun q0 c0 H hK1 hP hD hS => ?_)
  have e0 := ky_un hK hK1 0 5 rfl rfl
  subst e0
  have hP : va_P D classes (([(h0, .inr (4, [.ref hn, .int 0, .int 0, .null, .null, .null, .null, .null]))] ++ kyW cy an (kkX1 (i + 2))) ++ [(q0, .inl (cy 0, 16, .inl (fun _ => 0)))]) H := hP
  have hD : va_D A (([(h0, .inr (4, [.ref hn, .int 0, .int 0, .null, .null, .null, .null, .null]))] ++ kyW cy an (kkX1 (i + 2))) ++ [(q0, .inl (cy 0, 16, .inl (fun _ => 0)))]) := hD
  refine va_putF (D := D) (ci := 4) (v := .ref q0) (ty := .array .int) (C := RX4) (T := TX4) (N := 8) hx hb hts wsIn4 tyX4 tyX4_ok nmX4 hown hK hP hD hS 0 rfl rfl 3 (by decide) (hts _ (mg 293 (by decide +kernel) rfl)) (fun _ h9 => h9) rfl hin rfl (by decide +kernel) rfl rfl (Nat.le_of_ble_eq_true rfl) (by decide +kernel : decode cX4_init 20 = .ok (.putfield 18, 3)) (fun H locs hP hD hS => ?_)
  have hP : va_P D classes (([(h0, .inr (4, [.ref hn, .int 0, .int 0, .ref q0, .null, .null, .null, .null]))] ++ kyW cy an (kkX1 (i + 2))) ++ [(q0, .inl (cy 0, 16, .inl (fun _ => 0)))]) H := hP
  have hD : va_D A (([(h0, .inr (4, [.ref hn, .int 0, .int 0, .ref q0, .null, .null, .null, .null]))] ++ kyW cy an (kkX1 (i + 2))) ++ [(q0, .inl (cy 0, 16, .inl (fun _ => 0)))]) := hD
  refine lv_aload_n hx hb (by decide +kernel : decode cX4_init 23 = .ok (.aload_n 0, 1)) rfl (lv_at hl 0 rfl) ?_
  refine lv_bipush (v := 16) hx hb (by decide +kernel : decode cX4_init 24 = .ok (.bipush 16, 2)) (by decide) ?_
  refine va_newa (a0 := (16, .inl (fun _ => 0))) (N' := 16) (ty := .int) hx hb (hts _ (mg 161 (by decide +kernel) rfl)) rfl hK hP hD hS hA (fun _ => rfl) (by decide) (by decide) (by decide) (by decide) (by decide) (by decide +kernel : decode cX4_init 26 = .ok (.newarray .int, 2)) (fun q1 c1 H hK1 hP hD hS => ?_)
  have e1 := ky_un hK hK1 0 5 rfl rfl
  subst e1
  have hP : va_P D classes ((([(h0, .inr (4, [.ref hn, .int 0, .int 0, .ref q0, .null, .null, .null, .null]))] ++ kyW cy an (kkX1 (i + 2))) ++ [(q0, .inl (cy 0, 16, .inl (fun _ => 0)))]) ++ [(q1, .inl (cy 0, 16, .inl (fun _ => 0)))]) H := hP
  have hD : va_D A ((([(h0, .inr (4, [.ref hn, .int 0, .int 0, .ref q0, .null, .null, .null, .null]))] ++ kyW cy an (kkX1 (i + 2))) ++ [(q0, .inl (cy 0, 16, .inl (fun _ => 0)))]) ++ [(q1, .inl (cy 0, 16, .inl (fun _ => 0)))]) := hD
  refine va_putF (D := D) (ci := 4) (v := .ref q1) (ty := .array .int) (C := RX4) (T := TX4) (N := 8) hx hb hts wsIn4 tyX4 tyX4_ok nmX4 hown hK hP hD hS 0 rfl rfl 4 (by decide) (hts _ (mg 295 (by decide +kernel) rfl)) (fun _ h9 => h9) rfl hin rfl (by decide +kernel) rfl rfl (Nat.le_of_ble_eq_true rfl) (by decide +kernel : decode cX4_init 28 = .ok (.putfield 22, 3)) (fun H locs hP hD hS => ?_)
  have hP : va_P D classes ((([(h0, .inr (4, [.ref hn, .int 0, .int 0, .ref q0, .ref q1, .null, .null, .null]))] ++ kyW cy an (kkX1 (i + 2))) ++ [(q0, .inl (cy 0, 16, .inl (fun _ => 0)))]) ++ [(q1, .inl (cy 0, 16, .inl (fun _ => 0)))]) H := hP
  have hD : va_D A ((([(h0, .inr (4, [.ref hn, .int 0, .int 0, .ref q0, .ref q1, .null, .null, .null]))] ++ kyW cy an (kkX1 (i + 2))) ++ [(q0, .inl (cy 0, 16, .inl (fun _ => 0)))]) ++ [(q1, .inl (cy 0, 16, .inl (fun _ => 0)))]) := hD
  refine lv_aload_n hx hb (by decide +kernel : decode cX4_init 31 = .ok (.aload_n 0, 1)) rfl (lv_at hl 0 rfl) ?_
  refine lv_bipush (v := 16) hx hb (by decide +kernel : decode cX4_init 32 = .ok (.bipush 16, 2)) (by decide) ?_
  refine va_newa (a0 := (16, .inl (fun _ => 0))) (N' := 16) (ty := .int) hx hb (hts _ (mg 161 (by decide +kernel) rfl)) rfl hK hP hD hS hA (fun _ => rfl) (by decide) (by decide) (by decide) (by decide) (by decide) (by decide +kernel : decode cX4_init 34 = .ok (.newarray .int, 2)) (fun q2 c2 H hK1 hP hD hS => ?_)
  have e2 := ky_un hK hK1 0 5 rfl rfl
  subst e2
  have hP : va_P D classes (((([(h0, .inr (4, [.ref hn, .int 0, .int 0, .ref q0, .ref q1, .null, .null, .null]))] ++ kyW cy an (kkX1 (i + 2))) ++ [(q0, .inl (cy 0, 16, .inl (fun _ => 0)))]) ++ [(q1, .inl (cy 0, 16, .inl (fun _ => 0)))]) ++ [(q2, .inl (cy 0, 16, .inl (fun _ => 0)))]) H := hP
  have hD : va_D A (((([(h0, .inr (4, [.ref hn, .int 0, .int 0, .ref q0, .ref q1, .null, .null, .null]))] ++ kyW cy an (kkX1 (i + 2))) ++ [(q0, .inl (cy 0, 16, .inl (fun _ => 0)))]) ++ [(q1, .inl (cy 0, 16, .inl (fun _ => 0)))]) ++ [(q2, .inl (cy 0, 16, .inl (fun _ => 0)))]) := hD
  refine va_putF (D := D) (ci := 4) (v := .ref q2) (ty := .array .int) (C := RX4) (T := TX4) (N := 8) hx hb hts wsIn4 tyX4 tyX4_ok nmX4 hown hK hP hD hS 0 rfl rfl 5 (by decide) (hts _ (mg 296 (by decide +kernel) rfl)) (fun _ h9 => h9) rfl hin rfl (by decide +kernel) rfl rfl (Nat.le_of_ble_eq_true rfl) (by decide +kernel : decode cX4_init 36 = .ok (.putfield 25, 3)) (fun H locs hP hD hS => ?_)
  have hP : va_P D classes (((([(h0, .inr (4, [.ref hn, .int 0, .int 0, .ref q0, .ref q1, .ref q2, .null, .null]))] ++ kyW cy an (kkX1 (i + 2))) ++ [(q0, .inl (cy 0, 16, .inl (fun _ => 0)))]) ++ [(q1, .inl (cy 0, 16, .inl (fun _ => 0)))]) ++ [(q2, .inl (cy 0, 16, .inl (fun _ => 0)))]) H := hP
  have hD : va_D A (((([(h0, .inr (4, [.ref hn, .int 0, .int 0, .ref q0, .ref q1, .ref q2, .null, .null]))] ++ kyW cy an (kkX1 (i + 2))) ++ [(q0, .inl (cy 0, 16, .inl (fun _ => 0)))]) ++ [(q1, .inl (cy 0, 16, .inl (fun _ => 0)))]) ++ [(q2, .inl (cy 0, 16, .inl (fun _ => 0)))]) := hD
  refine lv_aload_n hx hb (by decide +kernel : decode cX4_init 39 = .ok (.aload_n 0, 1)) rfl (lv_at hl 0 rfl) ?_
  refine lv_bipush (v := 16) hx hb (by decide +kernel : decode cX4_init 40 = .ok (.bipush 16, 2)) (by decide) ?_
  refine va_newa (a0 := (16, .inl (fun _ => 0))) (N' := 16) (ty := .int) hx hb (hts _ (mg 161 (by decide +kernel) rfl)) rfl hK hP hD hS hA (fun _ => rfl) (by decide) (by decide) (by decide) (by decide) (by decide) (by decide +kernel : decode cX4_init 42 = .ok (.newarray .int, 2)) (fun q3 c3 H hK1 hP hD hS => ?_)
  have e3 := ky_un hK hK1 0 5 rfl rfl
  subst e3
  have hP : va_P D classes ((((([(h0, .inr (4, [.ref hn, .int 0, .int 0, .ref q0, .ref q1, .ref q2, .null, .null]))] ++ kyW cy an (kkX1 (i + 2))) ++ [(q0, .inl (cy 0, 16, .inl (fun _ => 0)))]) ++ [(q1, .inl (cy 0, 16, .inl (fun _ => 0)))]) ++ [(q2, .inl (cy 0, 16, .inl (fun _ => 0)))]) ++ [(q3, .inl (cy 0, 16, .inl (fun _ => 0)))]) H := hP
  have hD : va_D A ((((([(h0, .inr (4, [.ref hn, .int 0, .int 0, .ref q0, .ref q1, .ref q2, .null, .null]))] ++ kyW cy an (kkX1 (i + 2))) ++ [(q0, .inl (cy 0, 16, .inl (fun _ => 0)))]) ++ [(q1, .inl (cy 0, 16, .inl (fun _ => 0)))]) ++ [(q2, .inl (cy 0, 16, .inl (fun _ => 0)))]) ++ [(q3, .inl (cy 0, 16, .inl (fun _ => 0)))]) := hD
  refine va_putF (D := D) (ci := 4) (v := .ref q3) (ty := .array .int) (C := RX4) (T := TX4) (N := 8) hx hb hts wsIn4 tyX4 tyX4_ok nmX4 hown hK hP hD hS 0 rfl rfl 6 (by decide) (hts _ (mg 297 (by decide +kernel) rfl)) (fun _ h9 => h9) rfl hin rfl (by decide +kernel) rfl rfl (Nat.le_of_ble_eq_true rfl) (by decide +kernel : decode cX4_init 44 = .ok (.putfield 28, 3)) (fun H locs hP hD hS => ?_)
  have hP : va_P D classes ((((([(h0, .inr (4, [.ref hn, .int 0, .int 0, .ref q0, .ref q1, .ref q2, .ref q3, .null]))] ++ kyW cy an (kkX1 (i + 2))) ++ [(q0, .inl (cy 0, 16, .inl (fun _ => 0)))]) ++ [(q1, .inl (cy 0, 16, .inl (fun _ => 0)))]) ++ [(q2, .inl (cy 0, 16, .inl (fun _ => 0)))]) ++ [(q3, .inl (cy 0, 16, .inl (fun _ => 0)))]) H := hP
  have hD : va_D A ((((([(h0, .inr (4, [.ref hn, .int 0, .int 0, .ref q0, .ref q1, .ref q2, .ref q3, .null]))] ++ kyW cy an (kkX1 (i + 2))) ++ [(q0, .inl (cy 0, 16, .inl (fun _ => 0)))]) ++ [(q1, .inl (cy 0, 16, .inl (fun _ => 0)))]) ++ [(q2, .inl (cy 0, 16, .inl (fun _ => 0)))]) ++ [(q3, .inl (cy 0, 16, .inl (fun _ => 0)))]) := hD
  refine lv_aload_n hx hb (by decide +kernel : decode cX4_init 47 = .ok (.aload_n 0, 1)) rfl (lv_at hl 0 rfl) ?_
  refine lv_bipush (v := 25) hx hb (by decide +kernel : decode cX4_init 48 = .ok (.bipush 25, 2)) (by decide) ?_
  refine lv_bipush (v := 16) hx hb (by decide +kernel : decode cX4_init 50 = .ok (.bipush 16, 2)) (by decide) ?_
  refine va_multi hx hb hown (hts _ (mg 285 (by decide +kernel) rfl)) hAM.use (hts _ (mg 161 (by decide +kernel) rfl)) hK hP hD hS hA (by decide) (by decide) (by decide +kernel : decode cX4_init 52 = .ok (.multianewarray 31 2, 4)) (fun qk H hP hD hS => ?_)
  refine va_putF (D := D) (ci := 4) (v := .ref qk) (ty := .array (.array .int)) (C := RX4) (T := TX4) (N := 8) hx hb hts wsIn4 tyX4 tyX4_ok nmX4 hown hK hP hD hS 0 rfl rfl 7 (by decide) (hts _ (mg 298 (by decide +kernel) rfl)) (fun _ h9 => h9) rfl hin rfl (by decide +kernel) rfl rfl (Nat.le_of_ble_eq_true rfl) (by decide +kernel : decode cX4_init 56 = .ok (.putfield 33, 3)) (fun H locs hP hD hS => ?_)
  have hP : va_P D classes (((((([(h0, .inr (4, [.ref hn, .int 0, .int 0, .ref q0, .ref q1, .ref q2, .ref q3, .ref qk]))] ++ kyW cy an (kkX1 (i + 2))) ++ [(q0, .inl (cy 0, 16, .inl (fun _ => 0)))]) ++ [(q1, .inl (cy 0, 16, .inl (fun _ => 0)))]) ++ [(q2, .inl (cy 0, 16, .inl (fun _ => 0)))]) ++ [(q3, .inl (cy 0, 16, .inl (fun _ => 0)))]) ++ kyRows cy qk) H := hP
  have hD : va_D A (((((([(h0, .inr (4, [.ref hn, .int 0, .int 0, .ref q0, .ref q1, .ref q2, .ref q3, .ref qk]))] ++ kyW cy an (kkX1 (i + 2))) ++ [(q0, .inl (cy 0, 16, .inl (fun _ => 0)))]) ++ [(q1, .inl (cy 0, 16, .inl (fun _ => 0)))]) ++ [(q2, .inl (cy 0, 16, .inl (fun _ => 0)))]) ++ [(q3, .inl (cy 0, 16, .inl (fun _ => 0)))]) ++ kyRows cy qk) := hD
  have he : (((((([(h0, .inr (4, [.ref hn, .int 0, .int 0, .ref q0, .ref q1, .ref q2, .ref q3, .ref qk]))] ++ kyW cy an (kkX1 (i + 2))) ++ [(q0, .inl (cy 0, 16, .inl (fun _ => 0)))]) ++ [(q1, .inl (cy 0, 16, .inl (fun _ => 0)))]) ++ [(q2, .inl (cy 0, 16, .inl (fun _ => 0)))]) ++ [(q3, .inl (cy 0, 16, .inl (fun _ => 0)))]) ++ kyRows cy qk) = kyW cy (fun t k => match t with | 4 => h0 | 27 => q0 | 28 => q1 | 29 => q2 | 30 => q3 | 31 => qk | 32 => qk + 1 + (k - 25 * i) | _ => an t k) (kkX4 i) := by
    rw [kkX4, ky_app, ky_app, ky_app, ky_app, ky_app, ky_app, kyRows_eq (fun j => by show qk + 1 + (25 * i + j - 25 * i) = qk + 1 + j; omega)]
    rw [← fn]
    rfl
  rw [he] at hP hD
  exact W.vret hx hb hr (fun t ht hW => ⟨⟨(), rfl, trivial, _, rfl, by rw [ht]; exact hP, hD⟩, hS.F ht⟩) hS.2.2 (by decide +kernel : decode cX4_init 59 = .ok (.return_, 1))
