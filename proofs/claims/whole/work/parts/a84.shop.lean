/-! the class's constructor -/
abbrev ks1 : List (Nat × Nat) := (kkX5 0)
abbrev ks2 : List (Nat × Nat) := (kkX5 1) ++ ks1
abbrev ks3 : List (Nat × Nat) := (kkX0 0) ++ ks2
abbrev ks4 : List (Nat × Nat) := (kkX2 0) ++ ks3
abbrev ks5 : List (Nat × Nat) := (kkX1 0) ++ ks4
abbrev ks6 : List (Nat × Nat) := (kkX3 0) ++ ks5
abbrev ks7 : List (Nat × Nat) := (kkX1 1) ++ ks6
abbrev ks8 : List (Nat × Nat) := (kkX4 0) ++ ks7
abbrev ks9 : List (Nat × Nat) := (kkX4 1) ++ ks8
abbrev ks10 : List (Nat × Nat) := (kkX5 8) ++ ks9
abbrev ks11 : List (Nat × Nat) := (kkX5 9) ++ ks10
abbrev kkX6 : List (Nat × Nat) := [(6, 0), (34, 0), (35, 0)] ++ ks11
abbrev at_X6 (D : va_G) (cy : Nat → ClassId) (A : Nat → Prop) (h0 : Nat) (u : Unit) (t : State) : Prop := ∃ ad : Nat → Nat → Nat, ad 6 0 = h0 ∧ va_P D classes (kyW cy ad kkX6) t.heap ∧ va_D A (kyW cy ad kkX6)
set_option maxHeartbeats 40000000 in
set_option maxRecDepth 100000 in
theorem c_X6_init (l : Launch) (D : va_G) (cy : Nat → ClassId) (h0 sz : Nat) : Met l yX6_init (wz yX6_init cX6_init 2 none) ({ frames := 3, cells := 202, slots := 2465, locals := 240 }) (va_Pc [.ref h0] (fun U => U.heap.size = sz ∧ va_P D classes [(h0, .inr (6, [.null, .null, .null, .null, .null, .null, .null, .null, .int 0, .int 0, .null, .null, .null, .int 0, .int 0, .int 0]))] U.heap ∧ va_K D classes (tysL cy) U ∧ va_D (fun _ => True) [(h0, .inr (6, [.null, .null, .null, .null, .null, .null, .null, .null, .int 0, .int 0, .null, .null, .null, .int 0, .int 0, .int 0]))] ∧ (∀ w ∈ nw, va_Nw w U) ∧ kyAM U ∧ va_AO RX5 U)) (va_Qv (fun _ : Unit => True) (at_X6 D cy (va_A [(h0, .inr (6, [.null, .null, .null, .null, .null, .null, .null, .null, .int 0, .int 0, .null, .null, .null, .int 0, .int 0, .int 0]))] sz) h0) (va_A [(h0, .inr (6, [.null, .null, .null, .null, .null, .null, .null, .null, .int 0, .int 0, .null, .null, .null, .int 0, .int 0, .int 0]))] sz)) 202 2465 (va_A [(h0, .inr (6, [.null, .null, .null, .null, .null, .null, .null, .null, .int 0, .int 0, .null, .null, .null, .int 0, .int 0, .int 0]))] sz) := by
  refine Met.ofW (cc := cX6_init) (maxL := 2) (ret := none) (by decide +kernel) rfl ?_
  intro p e s m args below meth c s₁ B hml hv
  obtain ⟨rfl, hsz, hP, hK, hD0, hNw, hAM, hAO⟩ := hv
  have hx := B.exec
  have hb := B.bytes
  have hr := B.returns
  have hts0 := atoms_spec (ws := wz yX6_init cX6_init 2 none) B.pre
  have hts : ∀ w ∈ lw_g, w.before ([Value.ref h0]).toArray s = true := fun w hw => hts0 w (List.mem_cons_of_mem _ hw)
  have hown : s.vm.findClass RX6 = some m.cls := findClass_of_methodNamed B.named
  have hin : meth.name = "<init>" := (name_of_methodNamed B.named B.method).1
  subst hsz
  have hD := hD0.self (sz := s.heap.size)
  generalize hAe : va_A [(h0, .inr (6, [.null, .null, .null, .null, .null, .null, .null, .null, .int 0, .int 0, .null, .null, .null, .int 0, .int 0, .int 0]))] s.heap.size = A at hD ⊢
  have hA : ∀ q : Nat, s.heap.size ≤ q → A q := fun q h => by rw [← hAe]; exact Or.inr h
  have hS : va_S A s.heap s.heap [] := va_S.rf
  have hl := lv_entry ([.ref h0]) (n := 2) (Nat.le_of_ble_eq_true rfl)
  rw [lg_entry_eq]
  generalize (lg_sl ([.ref h0]) ++ List.replicate (2 - (lg_sl ([.ref h0])).length) Slot.unset).toArray = ls at hl ⊢
  have hl : lv_has ls 2 [(0, .ref h0)] := hl
  refine lv_aload_n hx hb (by decide +kernel : decode cX6_init 0 = .ok (.aload_n 0, 1)) rfl (lv_at hl 0 rfl) ?_
  refine W.objInit hx hb hown (hts _ (mg 110 (by decide +kernel) rfl)) (hts _ (mg 111 (by decide +kernel) rfl)) (hts _ (mg 112 (by decide +kernel) rfl)) rfl (by rw [hml]; exact hl.1) rfl (by decide +kernel : decode cX6_init 1 = .ok (.invokespecial 1, 3)) (Nat.le_of_ble_eq_true rfl) (Nat.le_of_ble_eq_true rfl) ?_
  refine W.eq (g2 := F0 m 4 ls []) rfl ?_
  refine lv_aload_n hx hb (by decide +kernel : decode cX6_init 4 = .ok (.aload_n 0, 1)) rfl (lv_at hl 0 rfl) ?_
  refine va_new (ci := 5) (fs := [.int 0, .null, .null, .null, .null, .null, .null, .null]) (C := RX5) (T := TX5) (N := 8) hx hb hts wsIn5 tyX5 tyX5_ok hown (hts _ (mg 113 (by decide +kernel) rfl)) (hts _ (mg 114 (by decide +kernel) rfl)) (hts _ inRX5) hK hP hD hS hA rfl (fun j hj => by rcases (show j = 0 ∨ j = 1 ∨ j = 2 ∨ j = 3 ∨ j = 4 ∨ j = 5 ∨ j = 6 ∨ j = 7 by omega) with rfl | rfl | rfl | rfl | rfl | rfl | rfl | rfl <;> rfl) (by decide) (by decide) (by decide +kernel : decode cX6_init 5 = .ok (.new 7, 3)) (fun s0 H hP hD hS => ?_)
  have hP : va_P D classes [(h0, .inr (6, [.null, .null, .null, .null, .null, .null, .null, .null, .int 0, .int 0, .null, .null, .null, .int 0, .int 0, .int 0])), (s0, .inr (5, [.int 0, .null, .null, .null, .null, .null, .null, .null]))] H := hP
  have hD : va_D A [(h0, .inr (6, [.null, .null, .null, .null, .null, .null, .null, .null, .int 0, .int 0, .null, .null, .null, .int 0, .int 0, .int 0])), (s0, .inr (5, [.int 0, .null, .null, .null, .null, .null, .null, .null]))] := hD
  refine lv_dup hx hb (by decide +kernel : decode cX6_init 8 = .ok (.dup, 1)) rfl ?_
  have hPc := hP.sub (ws' := [(s0, .inr (5, [.int 0, .null, .null, .null, .null, .null, .null, .null]))]) [1] rfl
  have hDc := hD.sub (ws' := [(s0, .inr (5, [.int 0, .null, .null, .null, .null, .null, .null, .null]))]) [1] (by decide) rfl
  have hKc := hK.sub (tys' := []) [] rfl
  have hFc := va_free (wc := [(s0, .inr (5, [.int 0, .null, .null, .null, .null, .null, .null, .null]))]) hD hS hA [1] rfl
  refine va_callv (va_runIN (host := "BottleneckShop") (As := []) (rest := [.ref s0, .ref h0]) ⟨hx, hb, hml, hown, hts⟩ (c_X5_init l D s0 H.size) ⟨va_cnB 0 hts (good_sub (fun w hw => (List.mem_cons.mp hw).elim (fun h => by rw [h]; exact mg 117 rfl rfl) (fun h => h))) rfl rfl rfl (hNw _ KRX6_9) (hts _ inRX5) ⟨by decide +kernel, by decide +kernel, by decide +kernel⟩ ⟨Nat.le_of_ble_eq_true rfl, Nat.le_of_ble_eq_true rfl⟩, rfl, (hts _ (mg 116 (by decide +kernel) rfl))⟩ ⟨fun a U g mk q => by obtain ⟨q0, q1, qP, qK, qD⟩ := q; exact ⟨q0, q1, qP, va_K.moved (u := U) (U := U.calling g mk a) (Vm.Alike.refl U.vm) qK, qD⟩, fun U hU hW => ⟨rfl, by rw [hU], by rw [hU]; exact hPc, va_K.moved hW.alike hKc, hDc.weaken (fun _ _ _ _ => trivial)⟩⟩ rfl rfl hl.1 rfl (lv_room (Nat.le_of_ble_eq_true rfl)) (by decide +kernel : decode cX6_init 9 = .ok (.invokespecial 9, 3)) ⟨by decide, by decide⟩) hS (fun q _ h => hFc q h) hFc (fun u t H1 locs ht hvm hu hB hz1 hk1 hS => ?_)
  obtain ⟨an, fn, hP1, hD1⟩ := tk_X5 0 hK hvm hB
  rw [ht] at hP1
  obtain ⟨hP, hD⟩ := va_join (wr := [(h0, .inr (6, [.null, .null, .null, .null, .null, .null, .null, .null, .int 0, .int 0, .null, .null, .null, .int 0, .int 0, .int 0]))]) (w1 := kyW cy an (kkX5 0)) hP hD [1] [0] rfl rfl (by decide) (by decide) hk1 hFc hP1 hD1
  generalize H1 = H at hP hS ⊢
  have hc1 : kyClo ks1 = true := by decide +kernel
  generalize an = ad1 at hP hD fn
  have f_5_0 := fn
  have hP : va_P D classes ([(h0, .inr (6, [.null, .null, .null, .null, .null, .null, .null, .null, .int 0, .int 0, .null, .null, .null, .int 0, .int 0, .int 0]))] ++ kyW cy ad1 ks1) H := hP
  have hD : va_D A ([(h0, .inr (6, [.null, .null, .null, .null, .null, .null, .null, .null, .int 0, .int 0, .null, .null, .null, .int 0, .int 0, .int 0]))] ++ kyW cy ad1 ks1) := hD
  refine va_putF (D := D) (ci := 6) (v := .ref s0) (ty := .object RX5) (C := RX6) (T := TX6) (N := 16) hx hb hts wsIn6 tyX6 tyX6_ok nmX6 hown hK hP hD hS 0 rfl rfl 0 (by decide) (hts _ (mg 316 (by decide +kernel) rfl)) (fun _ h9 => h9) rfl hin rfl (by decide +kernel) rfl rfl (Nat.le_of_ble_eq_true rfl) (by decide +kernel : decode cX6_init 12 = .ok (.putfield 10, 3)) (fun H locs hP hD hS => ?_)
  have hP : va_P D classes ([(h0, .inr (6, [.ref s0, .null, .null, .null, .null, .null, .null, .null, .int 0, .int 0, .null, .null, .null, .int 0, .int 0, .int 0]))] ++ kyW cy ad1 ks1) H := hP
  have hD : va_D A ([(h0, .inr (6, [.ref s0, .null, .null, .null, .null, .null, .null, .null, .int 0, .int 0, .null, .null, .null, .int 0, .int 0, .int 0]))] ++ kyW cy ad1 ks1) := hD
  refine lv_aload_n hx hb (by decide +kernel : decode cX6_init 15 = .ok (.aload_n 0, 1)) rfl (lv_at hl 0 rfl) ?_
  refine va_new (ci := 5) (fs := [.int 0, .null, .null, .null, .null, .null, .null, .null]) (C := RX5) (T := TX5) (N := 8) hx hb hts wsIn5 tyX5 tyX5_ok hown (hts _ (mg 113 (by decide +kernel) rfl)) (hts _ (mg 114 (by decide +kernel) rfl)) (hts _ inRX5) hK hP hD hS hA rfl (fun j hj => by rcases (show j = 0 ∨ j = 1 ∨ j = 2 ∨ j = 3 ∨ j = 4 ∨ j = 5 ∨ j = 6 ∨ j = 7 by omega) with rfl | rfl | rfl | rfl | rfl | rfl | rfl | rfl <;> rfl) (by decide) (by decide) (by decide +kernel : decode cX6_init 16 = .ok (.new 7, 3)) (fun s1 H hP hD hS => ?_)
  have hP := hP.swap
  have hD := hD.swap
  have hP : va_P D classes ([(h0, .inr (6, [.ref s0, .null, .null, .null, .null, .null, .null, .null, .int 0, .int 0, .null, .null, .null, .int 0, .int 0, .int 0])), (s1, .inr (5, [.int 0, .null, .null, .null, .null, .null, .null, .null]))] ++ kyW cy ad1 ks1) H := hP
  have hD : va_D A ([(h0, .inr (6, [.ref s0, .null, .null, .null, .null, .null, .null, .null, .int 0, .int 0, .null, .null, .null, .int 0, .int 0, .int 0])), (s1, .inr (5, [.int 0, .null, .null, .null, .null, .null, .null, .null]))] ++ kyW cy ad1 ks1) := hD
  refine lv_dup hx hb (by decide +kernel : decode cX6_init 19 = .ok (.dup, 1)) rfl ?_
  have hPc := hP.sub (ws' := [(s1, .inr (5, [.int 0, .null, .null, .null, .null, .null, .null, .null]))]) [1] rfl
  have hDc := hD.sub (ws' := [(s1, .inr (5, [.int 0, .null, .null, .null, .null, .null, .null, .null]))]) [1] (by decide) rfl
  have hKc := hK.sub (tys' := []) [] rfl
  have hFc := va_free (wc := [(s1, .inr (5, [.int 0, .null, .null, .null, .null, .null, .null, .null]))]) hD hS hA [1] rfl
  refine va_callv (va_runIN (host := "BottleneckShop") (As := []) (rest := [.ref s1, .ref h0]) ⟨hx, hb, hml, hown, hts⟩ (c_X5_init l D s1 H.size) ⟨va_cnB 0 hts (good_sub (fun w hw => (List.mem_cons.mp hw).elim (fun h => by rw [h]; exact mg 117 rfl rfl) (fun h => h))) rfl rfl rfl (hNw _ KRX6_9) (hts _ inRX5) ⟨by decide +kernel, by decide +kernel, by decide +kernel⟩ ⟨Nat.le_of_ble_eq_true rfl, Nat.le_of_ble_eq_true rfl⟩, rfl, (hts _ (mg 116 (by decide +kernel) rfl))⟩ ⟨fun a U g mk q => by obtain ⟨q0, q1, qP, qK, qD⟩ := q; exact ⟨q0, q1, qP, va_K.moved (u := U) (U := U.calling g mk a) (Vm.Alike.refl U.vm) qK, qD⟩, fun U hU hW => ⟨rfl, by rw [hU], by rw [hU]; exact hPc, va_K.moved hW.alike hKc, hDc.weaken (fun _ _ _ _ => trivial)⟩⟩ rfl rfl hl.1 rfl (lv_room (Nat.le_of_ble_eq_true rfl)) (by decide +kernel : decode cX6_init 20 = .ok (.invokespecial 9, 3)) ⟨by decide, by decide⟩) hS (fun q _ h => hFc q h) hFc (fun u t H1 locs ht hvm hu hB hz1 hk1 hS => ?_)
  obtain ⟨an, fn, hP1, hD1⟩ := tk_X5 1 hK hvm hB
  rw [ht] at hP1
  obtain ⟨hP, hD⟩ := va_joinQ (wr := [(h0, .inr (6, [.ref s0, .null, .null, .null, .null, .null, .null, .null, .int 0, .int 0, .null, .null, .null, .int 0, .int 0, .int 0]))]) (w1 := kyW cy an (kkX5 1)) (pl := kyW cy ad1 ks1) hP hD [1] [0] rfl rfl (by decide) (by decide) hk1 hFc hP1 hD1
  generalize H1 = H at hP hS ⊢
  rw [List.append_assoc] at hP hD
  obtain ⟨hP, hD⟩ := ky_mrg hP hD (by decide +kernel) hc1 (by decide +kernel)
  have hc2 : kyClo ks2 = true := ky_clo (by decide +kernel) hc1
  have f_5_0 := (kyMg_r (K := (kkX5 1)) (a := an) (b := ad1) (by decide +kernel)).trans f_5_0
  have f_5_1 := (kyMg_l (K := (kkX5 1)) (a := an) (b := ad1) (by decide +kernel)).trans fn
  generalize kyMg (kkX5 1) an ad1 = ad2 at hP hD f_5_0 f_5_1
  have hP : va_P D classes ([(h0, .inr (6, [.ref s0, .null, .null, .null, .null, .null, .null, .null, .int 0, .int 0, .null, .null, .null, .int 0, .int 0, .int 0]))] ++ kyW cy ad2 ks2) H := hP
  have hD : va_D A ([(h0, .inr (6, [.ref s0, .null, .null, .null, .null, .null, .null, .null, .int 0, .int 0, .null, .null, .null, .int 0, .int 0, .int 0]))] ++ kyW cy ad2 ks2) := hD
  refine va_putF (D := D) (ci := 6) (v := .ref s1) (ty := .object RX5) (C := RX6) (T := TX6) (N := 16) hx hb hts wsIn6 tyX6 tyX6_ok nmX6 hown hK hP hD hS 0 rfl rfl 1 (by decide) (hts _ (mg 317 (by decide +kernel) rfl)) (fun _ h9 => h9) rfl hin rfl (by decide +kernel) rfl rfl (Nat.le_of_ble_eq_true rfl) (by decide +kernel : decode cX6_init 23 = .ok (.putfield 16, 3)) (fun H locs hP hD hS => ?_)
  have hP : va_P D classes ([(h0, .inr (6, [.ref s0, .ref s1, .null, .null, .null, .null, .null, .null, .int 0, .int 0, .null, .null, .null, .int 0, .int 0, .int 0]))] ++ kyW cy ad2 ks2) H := hP
  have hD : va_D A ([(h0, .inr (6, [.ref s0, .ref s1, .null, .null, .null, .null, .null, .null, .int 0, .int 0, .null, .null, .null, .int 0, .int 0, .int 0]))] ++ kyW cy ad2 ks2) := hD
  refine lv_aload_n hx hb (by decide +kernel : decode cX6_init 26 = .ok (.aload_n 0, 1)) rfl (lv_at hl 0 rfl) ?_
  refine va_new (ci := 0) (fs := [.null, .int 0, .int 0]) (C := RX0) (T := TX0) (N := 3) hx hb hts wsIn0 tyX0 tyX0_ok hown (hts _ (mg 162 (by decide +kernel) rfl)) (hts _ (mg 163 (by decide +kernel) rfl)) (hts _ inRX0) hK hP hD hS hA rfl (fun j hj => by rcases (show j = 0 ∨ j = 1 ∨ j = 2 by omega) with rfl | rfl | rfl <;> rfl) (by decide) (by decide) (by decide +kernel : decode cX6_init 27 = .ok (.new 19, 3)) (fun hh H hP hD hS => ?_)
  have hP := hP.swap
  have hD := hD.swap
  have hP : va_P D classes ([(h0, .inr (6, [.ref s0, .ref s1, .null, .null, .null, .null, .null, .null, .int 0, .int 0, .null, .null, .null, .int 0, .int 0, .int 0])), (hh, .inr (0, [.null, .int 0, .int 0]))] ++ kyW cy ad2 ks2) H := hP
  have hD : va_D A ([(h0, .inr (6, [.ref s0, .ref s1, .null, .null, .null, .null, .null, .null, .int 0, .int 0, .null, .null, .null, .int 0, .int 0, .int 0])), (hh, .inr (0, [.null, .int 0, .int 0]))] ++ kyW cy ad2 ks2) := hD
  refine lv_dup hx hb (by decide +kernel : decode cX6_init 30 = .ok (.dup, 1)) rfl ?_
  have hPc := hP.sub (ws' := [(hh, .inr (0, [.null, .int 0, .int 0]))]) [1] rfl
  have hDc := hD.sub (ws' := [(hh, .inr (0, [.null, .int 0, .int 0]))]) [1] (by decide) rfl
  have hKc := hK.sub (tys' := []) [] rfl
  have hFc := va_free (wc := [(hh, .inr (0, [.null, .int 0, .int 0]))]) hD hS hA [1] rfl
  refine va_callv (va_runI (As := []) (rest := [.ref hh, .ref h0]) ⟨hx, hb, hml, hown, hts⟩ (c_X0_init l D hh H.size) (cwI 0 hts (good_sub (fun w hw => (List.mem_cons.mp hw).elim (fun h => by rw [h]; exact mg 166 rfl rfl) (fun h => h))) rfl rfl rfl (hts _ inRX0) (hts _ KRX6_21) (hts _ (mg 165 (by decide +kernel) rfl)) rfl (by decide +kernel) ⟨Nat.le_of_ble_eq_true rfl, Nat.le_of_ble_eq_true rfl⟩) ⟨fun a U g mk q => by obtain ⟨q0, q1, qP, qK, qD, qN, qA⟩ := q; exact ⟨q0, q1, qP, va_K.moved (u := U) (U := U.calling g mk a) (Vm.Alike.refl U.vm) qK, qD, nw_same (u := U) rfl qN, va_AO.moved (u := U) (U := U.calling g mk a) (Vm.Alike.refl U.vm) qA⟩, fun U hU hW => ⟨rfl, by rw [hU], by rw [hU]; exact hPc, va_K.moved hW.alike hKc, hDc.weaken (fun _ _ _ _ => trivial), nw_warm hW hNw, va_AO.moved hW.alike hAO⟩⟩ rfl rfl hl.1 rfl (lv_room (Nat.le_of_ble_eq_true rfl)) (by decide +kernel : decode cX6_init 31 = .ok (.invokespecial 21, 3)) ⟨by decide, by decide⟩) hS (fun q _ h => hFc q h) hFc (fun u t H1 locs ht hvm hu hB hz1 hk1 hS => ?_)
  obtain ⟨an, fn, hP1, hD1⟩ := tk_X0 hK hvm hB
  rw [ht] at hP1
  obtain ⟨hP, hD⟩ := va_joinQ (wr := [(h0, .inr (6, [.ref s0, .ref s1, .null, .null, .null, .null, .null, .null, .int 0, .int 0, .null, .null, .null, .int 0, .int 0, .int 0]))]) (w1 := kyW cy an (kkX0 0)) (pl := kyW cy ad2 ks2) hP hD [1] [0] rfl rfl (by decide) (by decide) hk1 hFc hP1 hD1
  generalize H1 = H at hP hS ⊢
  rw [List.append_assoc] at hP hD
  obtain ⟨hP, hD⟩ := ky_mrg hP hD (by decide +kernel) hc2 (by decide +kernel)
  have hc3 : kyClo ks3 = true := ky_clo (by decide +kernel) hc2
  have f_5_0 := (kyMg_r (K := (kkX0 0)) (a := an) (b := ad2) (by decide +kernel)).trans f_5_0
  have f_5_1 := (kyMg_r (K := (kkX0 0)) (a := an) (b := ad2) (by decide +kernel)).trans f_5_1
  have f_0_0 := (kyMg_l (K := (kkX0 0)) (a := an) (b := ad2) (by decide +kernel)).trans fn
  generalize kyMg (kkX0 0) an ad2 = ad3 at hP hD f_5_0 f_5_1 f_0_0
  have hP : va_P D classes ([(h0, .inr (6, [.ref s0, .ref s1, .null, .null, .null, .null, .null, .null, .int 0, .int 0, .null, .null, .null, .int 0, .int 0, .int 0]))] ++ kyW cy ad3 ks3) H := hP
  have hD : va_D A ([(h0, .inr (6, [.ref s0, .ref s1, .null, .null, .null, .null, .null, .null, .int 0, .int 0, .null, .null, .null, .int 0, .int 0, .int 0]))] ++ kyW cy ad3 ks3) := hD
  refine va_putF (D := D) (ci := 6) (v := .ref hh) (ty := .object RX0) (C := RX6) (T := TX6) (N := 16) hx hb hts wsIn6 tyX6 tyX6_ok nmX6 hown hK hP hD hS 0 rfl rfl 2 (by decide) (hts _ (mg 318 (by decide +kernel) rfl)) (fun _ h9 => h9) rfl hin rfl (by decide +kernel) rfl rfl (Nat.le_of_ble_eq_true rfl) (by decide +kernel : decode cX6_init 34 = .ok (.putfield 22, 3)) (fun H locs hP hD hS => ?_)
  have hP : va_P D classes ([(h0, .inr (6, [.ref s0, .ref s1, .ref hh, .null, .null, .null, .null, .null, .int 0, .int 0, .null, .null, .null, .int 0, .int 0, .int 0]))] ++ kyW cy ad3 ks3) H := hP
  have hD : va_D A ([(h0, .inr (6, [.ref s0, .ref s1, .ref hh, .null, .null, .null, .null, .null, .int 0, .int 0, .null, .null, .null, .int 0, .int 0, .int 0]))] ++ kyW cy ad3 ks3) := hD
  refine lv_aload_n hx hb (by decide +kernel : decode cX6_init 37 = .ok (.aload_n 0, 1)) rfl (lv_at hl 0 rfl) ?_
  refine lv_iconst (v := 2) hx hb (by decide +kernel : decode cX6_init 38 = .ok (.iconst 2, 1)) (by decide) ?_
  refine va_newq (N' := 2) (C := RX5) hx hb hown (hts _ (mg 113 (by decide +kernel) rfl)) hAO hK hP hD hS hA (by decide) (by decide) (by decide) (by decide) (by decide) (by decide +kernel : decode cX6_init 39 = .ok (.anewarray 7, 3)) (fun qs cq H hK1 hP hD hS => ?_)
  have eq1 := ky_un hK hK1 3 5 rfl rfl
  subst eq1
  have hP := hP.swap
  have hD := hD.swap
  have hP : va_P D classes ([(h0, .inr (6, [.ref s0, .ref s1, .ref hh, .null, .null, .null, .null, .null, .int 0, .int 0, .null, .null, .null, .int 0, .int 0, .int 0])), (qs, .inl (cy 3, 2, .inr (.inr (.inr (.inr (fun _ => none))))))] ++ kyW cy ad3 ks3) H := hP
  have hD : va_D A ([(h0, .inr (6, [.ref s0, .ref s1, .ref hh, .null, .null, .null, .null, .null, .int 0, .int 0, .null, .null, .null, .int 0, .int 0, .int 0])), (qs, .inl (cy 3, 2, .inr (.inr (.inr (.inr (fun _ => none))))))] ++ kyW cy ad3 ks3) := hD
  refine va_putF (D := D) (ci := 6) (v := .ref qs) (ty := .array (.object RX5)) (C := RX6) (T := TX6) (N := 16) hx hb hts wsIn6 tyX6 tyX6_ok nmX6 hown hK hP hD hS 0 rfl rfl 3 (by decide) (hts _ (mg 319 (by decide +kernel) rfl)) (fun _ h9 => h9) rfl hin rfl (by decide +kernel) rfl rfl (Nat.le_of_ble_eq_true rfl) (by decide +kernel : decode cX6_init 42 = .ok (.putfield 26, 3)) (fun H locs hP hD hS => ?_)
  have hP : va_P D classes ([(h0, .inr (6, [.ref s0, .ref s1, .ref hh, .ref qs, .null, .null, .null, .null, .int 0, .int 0, .null, .null, .null, .int 0, .int 0, .int 0])), (qs, .inl (cy 3, 2, .inr (.inr (.inr (.inr (fun _ => none))))))] ++ kyW cy ad3 ks3) H := hP
  have hD : va_D A ([(h0, .inr (6, [.ref s0, .ref s1, .ref hh, .ref qs, .null, .null, .null, .null, .int 0, .int 0, .null, .null, .null, .int 0, .int 0, .int 0])), (qs, .inl (cy 3, 2, .inr (.inr (.inr (.inr (fun _ => none))))))] ++ kyW cy ad3 ks3) := hD
  refine lv_aload_n hx hb (by decide +kernel : decode cX6_init 45 = .ok (.aload_n 0, 1)) rfl (lv_at hl 0 rfl) ?_
  refine lv_iconst (v := 2) hx hb (by decide +kernel : decode cX6_init 46 = .ok (.iconst 2, 1)) (by decide) ?_
  refine va_newa (a0 := (2, .inl (fun _ => 0))) (N' := 2) (ty := .boolean) hx hb (hts _ (mg 202 (by decide +kernel) rfl)) rfl hK hP hD hS hA (fun _ => rfl) (by decide) (by decide) (by decide) (by decide) (by decide) (by decide +kernel : decode cX6_init 47 = .ok (.newarray .boolean, 2)) (fun qv cv H hK1 hP hD hS => ?_)
  have eq1 := ky_un hK hK1 2 5 rfl rfl
  subst eq1
  have hP := hP.swap
  have hD := hD.swap
  have hP : va_P D classes ([(h0, .inr (6, [.ref s0, .ref s1, .ref hh, .ref qs, .null, .null, .null, .null, .int 0, .int 0, .null, .null, .null, .int 0, .int 0, .int 0])), (qs, .inl (cy 3, 2, .inr (.inr (.inr (.inr (fun _ => none)))))), (qv, .inl (cy 2, 2, .inl (fun _ => 0)))] ++ kyW cy ad3 ks3) H := hP
  have hD : va_D A ([(h0, .inr (6, [.ref s0, .ref s1, .ref hh, .ref qs, .null, .null, .null, .null, .int 0, .int 0, .null, .null, .null, .int 0, .int 0, .int 0])), (qs, .inl (cy 3, 2, .inr (.inr (.inr (.inr (fun _ => none)))))), (qv, .inl (cy 2, 2, .inl (fun _ => 0)))] ++ kyW cy ad3 ks3) := hD
  refine va_putF (D := D) (ci := 6) (v := .ref qv) (ty := .array .boolean) (C := RX6) (T := TX6) (N := 16) hx hb hts wsIn6 tyX6 tyX6_ok nmX6 hown hK hP hD hS 0 rfl rfl 4 (by decide) (hts _ (mg 320 (by decide +kernel) rfl)) (fun _ h9 => h9) rfl hin rfl (by decide +kernel) rfl rfl (Nat.le_of_ble_eq_true rfl) (by decide +kernel : decode cX6_init 49 = .ok (.putfield 30, 3)) (fun H locs hP hD hS => ?_)
  have hP : va_P D classes ([(h0, .inr (6, [.ref s0, .ref s1, .ref hh, .ref qs, .ref qv, .null, .null, .null, .int 0, .int 0, .null, .null, .null, .int 0, .int 0, .int 0])), (qs, .inl (cy 3, 2, .inr (.inr (.inr (.inr (fun _ => none)))))), (qv, .inl (cy 2, 2, .inl (fun _ => 0)))] ++ kyW cy ad3 ks3) H := hP
  have hD : va_D A ([(h0, .inr (6, [.ref s0, .ref s1, .ref hh, .ref qs, .ref qv, .null, .null, .null, .int 0, .int 0, .null, .null, .null, .int 0, .int 0, .int 0])), (qs, .inl (cy 3, 2, .inr (.inr (.inr (.inr (fun _ => none)))))), (qv, .inl (cy 2, 2, .inl (fun _ => 0)))] ++ kyW cy ad3 ks3) := hD
  refine lv_aload_n hx hb (by decide +kernel : decode cX6_init 52 = .ok (.aload_n 0, 1)) rfl (lv_at hl 0 rfl) ?_
  refine va_new (ci := 2) (fs := [.null, .int 0, .int 0, .int 0]) (C := RX2) (T := TX2) (N := 4) hx hb hts wsIn2 tyX2 tyX2_ok hown (hts _ (mg 182 (by decide +kernel) rfl)) (hts _ (mg 183 (by decide +kernel) rfl)) (hts _ inRX2) hK hP hD hS hA rfl (fun j hj => by rcases (show j = 0 ∨ j = 1 ∨ j = 2 ∨ j = 3 by omega) with rfl | rfl | rfl | rfl <;> rfl) (by decide) (by decide) (by decide +kernel : decode cX6_init 53 = .ok (.new 34, 3)) (fun hp H hP hD hS => ?_)
  have hP := hP.swap
  have hD := hD.swap
  have hP : va_P D classes ([(h0, .inr (6, [.ref s0, .ref s1, .ref hh, .ref qs, .ref qv, .null, .null, .null, .int 0, .int 0, .null, .null, .null, .int 0, .int 0, .int 0])), (qs, .inl (cy 3, 2, .inr (.inr (.inr (.inr (fun _ => none)))))), (qv, .inl (cy 2, 2, .inl (fun _ => 0))), (hp, .inr (2, [.null, .int 0, .int 0, .int 0]))] ++ kyW cy ad3 ks3) H := hP
  have hD : va_D A ([(h0, .inr (6, [.ref s0, .ref s1, .ref hh, .ref qs, .ref qv, .null, .null, .null, .int 0, .int 0, .null, .null, .null, .int 0, .int 0, .int 0])), (qs, .inl (cy 3, 2, .inr (.inr (.inr (.inr (fun _ => none)))))), (qv, .inl (cy 2, 2, .inl (fun _ => 0))), (hp, .inr (2, [.null, .int 0, .int 0, .int 0]))] ++ kyW cy ad3 ks3) := hD
  refine lv_dup hx hb (by decide +kernel : decode cX6_init 56 = .ok (.dup, 1)) rfl ?_
  have hPc := hP.sub (ws' := [(hp, .inr (2, [.null, .int 0, .int 0, .int 0]))]) [3] rfl
  have hDc := hD.sub (ws' := [(hp, .inr (2, [.null, .int 0, .int 0, .int 0]))]) [3] (by decide) rfl
  have hKc := hK.sub (tys' := []) [] rfl
  have hFc := va_free (wc := [(hp, .inr (2, [.null, .int 0, .int 0, .int 0]))]) hD hS hA [3] rfl
  refine va_callv (va_runIN (host := "BottleneckShop") (As := []) (rest := [.ref hp, .ref h0]) ⟨hx, hb, hml, hown, hts⟩ (c_X2_init l D hp H.size) ⟨va_cnB 0 hts (good_sub (fun w hw => (List.mem_cons.mp hw).elim (fun h => by rw [h]; exact mg 186 rfl rfl) (fun h => h))) rfl rfl rfl (hNw _ KRX6_36) (hts _ inRX2) ⟨by decide +kernel, by decide +kernel, by decide +kernel⟩ ⟨Nat.le_of_ble_eq_true rfl, Nat.le_of_ble_eq_true rfl⟩, rfl, (hts _ (mg 185 (by decide +kernel) rfl))⟩ ⟨fun a U g mk q => by obtain ⟨q0, q1, qP, qK, qD⟩ := q; exact ⟨q0, q1, qP, va_K.moved (u := U) (U := U.calling g mk a) (Vm.Alike.refl U.vm) qK, qD⟩, fun U hU hW => ⟨rfl, by rw [hU], by rw [hU]; exact hPc, va_K.moved hW.alike hKc, hDc.weaken (fun _ _ _ _ => trivial)⟩⟩ rfl rfl hl.1 rfl (lv_room (Nat.le_of_ble_eq_true rfl)) (by decide +kernel : decode cX6_init 57 = .ok (.invokespecial 36, 3)) ⟨by decide, by decide⟩) hS (fun q _ h => hFc q h) hFc (fun u t H1 locs ht hvm hu hB hz1 hk1 hS => ?_)
  obtain ⟨an, fn, hP1, hD1⟩ := tk_X2 0 hK hvm hB
  rw [ht] at hP1
  obtain ⟨hP, hD⟩ := va_joinQ (wr := [(h0, .inr (6, [.ref s0, .ref s1, .ref hh, .ref qs, .ref qv, .null, .null, .null, .int 0, .int 0, .null, .null, .null, .int 0, .int 0, .int 0])), (qs, .inl (cy 3, 2, .inr (.inr (.inr (.inr (fun _ => none)))))), (qv, .inl (cy 2, 2, .inl (fun _ => 0)))]) (w1 := kyW cy an (kkX2 0)) (pl := kyW cy ad3 ks3) hP hD [3] [0, 1, 2] rfl rfl (by decide) (by decide) hk1 hFc hP1 hD1
  generalize H1 = H at hP hS ⊢
  rw [List.append_assoc] at hP hD
  obtain ⟨hP, hD⟩ := ky_mrg hP hD (by decide +kernel) hc3 (by decide +kernel)
  have hc4 : kyClo ks4 = true := ky_clo (by decide +kernel) hc3
  have f_5_0 := (kyMg_r (K := (kkX2 0)) (a := an) (b := ad3) (by decide +kernel)).trans f_5_0
  have f_5_1 := (kyMg_r (K := (kkX2 0)) (a := an) (b := ad3) (by decide +kernel)).trans f_5_1
  have f_0_0 := (kyMg_r (K := (kkX2 0)) (a := an) (b := ad3) (by decide +kernel)).trans f_0_0
  have f_2_0 := (kyMg_l (K := (kkX2 0)) (a := an) (b := ad3) (by decide +kernel)).trans fn
  generalize kyMg (kkX2 0) an ad3 = ad4 at hP hD f_5_0 f_5_1 f_0_0 f_2_0
  have hP : va_P D classes ([(h0, .inr (6, [.ref s0, .ref s1, .ref hh, .ref qs, .ref qv, .null, .null, .null, .int 0, .int 0, .null, .null, .null, .int 0, .int 0, .int 0])), (qs, .inl (cy 3, 2, .inr (.inr (.inr (.inr (fun _ => none)))))), (qv, .inl (cy 2, 2, .inl (fun _ => 0)))] ++ kyW cy ad4 ks4) H := hP
  have hD : va_D A ([(h0, .inr (6, [.ref s0, .ref s1, .ref hh, .ref qs, .ref qv, .null, .null, .null, .int 0, .int 0, .null, .null, .null, .int 0, .int 0, .int 0])), (qs, .inl (cy 3, 2, .inr (.inr (.inr (.inr (fun _ => none)))))), (qv, .inl (cy 2, 2, .inl (fun _ => 0)))] ++ kyW cy ad4 ks4) := hD
  refine va_putF (D := D) (ci := 6) (v := .ref hp) (ty := .object RX2) (C := RX6) (T := TX6) (N := 16) hx hb hts wsIn6 tyX6 tyX6_ok nmX6 hown hK hP hD hS 0 rfl rfl 5 (by decide) (hts _ (mg 321 (by decide +kernel) rfl)) (fun _ h9 => h9) rfl hin rfl (by decide +kernel) rfl rfl (Nat.le_of_ble_eq_true rfl) (by decide +kernel : decode cX6_init 60 = .ok (.putfield 37, 3)) (fun H locs hP hD hS => ?_)
  have hP : va_P D classes ([(h0, .inr (6, [.ref s0, .ref s1, .ref hh, .ref qs, .ref qv, .ref hp, .null, .null, .int 0, .int 0, .null, .null, .null, .int 0, .int 0, .int 0])), (qs, .inl (cy 3, 2, .inr (.inr (.inr (.inr (fun _ => none)))))), (qv, .inl (cy 2, 2, .inl (fun _ => 0)))] ++ kyW cy ad4 ks4) H := hP
  have hD : va_D A ([(h0, .inr (6, [.ref s0, .ref s1, .ref hh, .ref qs, .ref qv, .ref hp, .null, .null, .int 0, .int 0, .null, .null, .null, .int 0, .int 0, .int 0])), (qs, .inl (cy 3, 2, .inr (.inr (.inr (.inr (fun _ => none)))))), (qv, .inl (cy 2, 2, .inl (fun _ => 0)))] ++ kyW cy ad4 ks4) := hD
  refine lv_aload_n hx hb (by decide +kernel : decode cX6_init 63 = .ok (.aload_n 0, 1)) rfl (lv_at hl 0 rfl) ?_
  refine va_new (ci := 1) (fs := [.null, .null, .null, .null, .null, .null, .null, .null, .int 0, .int 0, .null, .int 0, .null, .null, .null]) (C := RX1) (T := TX1) (N := 15) hx hb hts wsIn1 tyX1 tyX1_ok hown (hts _ (mg 204 (by decide +kernel) rfl)) (hts _ (mg 205 (by decide +kernel) rfl)) (hts _ inRX1) hK hP hD hS hA rfl (fun j hj => by rcases (show j = 0 ∨ j = 1 ∨ j = 2 ∨ j = 3 ∨ j = 4 ∨ j = 5 ∨ j = 6 ∨ j = 7 ∨ j = 8 ∨ j = 9 ∨ j = 10 ∨ j = 11 ∨ j = 12 ∨ j = 13 ∨ j = 14 by omega) with rfl | rfl | rfl | rfl | rfl | rfl | rfl | rfl | rfl | rfl | rfl | rfl | rfl | rfl | rfl <;> rfl) (by decide) (by decide) (by decide +kernel : decode cX6_init 64 = .ok (.new 41, 3)) (fun n0 H hP hD hS => ?_)
  have hP := hP.swap
  have hD := hD.swap
  have hP : va_P D classes ([(h0, .inr (6, [.ref s0, .ref s1, .ref hh, .ref qs, .ref qv, .ref hp, .null, .null, .int 0, .int 0, .null, .null, .null, .int 0, .int 0, .int 0])), (qs, .inl (cy 3, 2, .inr (.inr (.inr (.inr (fun _ => none)))))), (qv, .inl (cy 2, 2, .inl (fun _ => 0))), (n0, .inr (1, [.null, .null, .null, .null, .null, .null, .null, .null, .int 0, .int 0, .null, .int 0, .null, .null, .null]))] ++ kyW cy ad4 ks4) H := hP
  have hD : va_D A ([(h0, .inr (6, [.ref s0, .ref s1, .ref hh, .ref qs, .ref qv, .ref hp, .null, .null, .int 0, .int 0, .null, .null, .null, .int 0, .int 0, .int 0])), (qs, .inl (cy 3, 2, .inr (.inr (.inr (.inr (fun _ => none)))))), (qv, .inl (cy 2, 2, .inl (fun _ => 0))), (n0, .inr (1, [.null, .null, .null, .null, .null, .null, .null, .null, .int 0, .int 0, .null, .int 0, .null, .null, .null]))] ++ kyW cy ad4 ks4) := hD
  refine lv_dup hx hb (by decide +kernel : decode cX6_init 67 = .ok (.dup, 1)) rfl ?_
  have hPc := hP.sub (ws' := [(n0, .inr (1, [.null, .null, .null, .null, .null, .null, .null, .null, .int 0, .int 0, .null, .int 0, .null, .null, .null]))]) [3] rfl
  have hDc := hD.sub (ws' := [(n0, .inr (1, [.null, .null, .null, .null, .null, .null, .null, .null, .int 0, .int 0, .null, .int 0, .null, .null, .null]))]) [3] (by decide) rfl
  have hKc := hK.sub (tys' := []) [] rfl
  have hFc := va_free (wc := [(n0, .inr (1, [.null, .null, .null, .null, .null, .null, .null, .null, .int 0, .int 0, .null, .int 0, .null, .null, .null]))]) hD hS hA [3] rfl
  refine va_callv (va_runIN (host := "BottleneckShop") (As := []) (rest := [.ref n0, .ref h0]) ⟨hx, hb, hml, hown, hts⟩ (c_X1_init l D n0 H.size) ⟨va_cnB 0 hts (good_sub (fun w hw => (List.mem_cons.mp hw).elim (fun h => by rw [h]; exact mg 208 rfl rfl) (fun h => h))) rfl rfl rfl (hNw _ KRX6_43) (hts _ inRX1) ⟨by decide +kernel, by decide +kernel, by decide +kernel⟩ ⟨Nat.le_of_ble_eq_true rfl, Nat.le_of_ble_eq_true rfl⟩, rfl, (hts _ (mg 207 (by decide +kernel) rfl))⟩ ⟨fun a U g mk q => by obtain ⟨q0, q1, qP, qK, qD⟩ := q; exact ⟨q0, q1, qP, va_K.moved (u := U) (U := U.calling g mk a) (Vm.Alike.refl U.vm) qK, qD⟩, fun U hU hW => ⟨rfl, by rw [hU], by rw [hU]; exact hPc, va_K.moved hW.alike hKc, hDc.weaken (fun _ _ _ _ => trivial)⟩⟩ rfl rfl hl.1 rfl (lv_room (Nat.le_of_ble_eq_true rfl)) (by decide +kernel : decode cX6_init 68 = .ok (.invokespecial 43, 3)) ⟨by decide, by decide⟩) hS (fun q _ h => hFc q h) hFc (fun u t H1 locs ht hvm hu hB hz1 hk1 hS => ?_)
  obtain ⟨an, fn, hP1, hD1⟩ := tk_X1 0 hK hvm hB
  rw [ht] at hP1
  obtain ⟨hP, hD⟩ := va_joinQ (wr := [(h0, .inr (6, [.ref s0, .ref s1, .ref hh, .ref qs, .ref qv, .ref hp, .null, .null, .int 0, .int 0, .null, .null, .null, .int 0, .int 0, .int 0])), (qs, .inl (cy 3, 2, .inr (.inr (.inr (.inr (fun _ => none)))))), (qv, .inl (cy 2, 2, .inl (fun _ => 0)))]) (w1 := kyW cy an (kkX1 0)) (pl := kyW cy ad4 ks4) hP hD [3] [0, 1, 2] rfl rfl (by decide) (by decide) hk1 hFc hP1 hD1
  generalize H1 = H at hP hS ⊢
  rw [List.append_assoc] at hP hD
  obtain ⟨hP, hD⟩ := ky_mrg hP hD (by decide +kernel) hc4 (by decide +kernel)
  have hc5 : kyClo ks5 = true := ky_clo (by decide +kernel) hc4
  have f_5_0 := (kyMg_r (K := (kkX1 0)) (a := an) (b := ad4) (by decide +kernel)).trans f_5_0
  have f_5_1 := (kyMg_r (K := (kkX1 0)) (a := an) (b := ad4) (by decide +kernel)).trans f_5_1
  have f_0_0 := (kyMg_r (K := (kkX1 0)) (a := an) (b := ad4) (by decide +kernel)).trans f_0_0
  have f_2_0 := (kyMg_r (K := (kkX1 0)) (a := an) (b := ad4) (by decide +kernel)).trans f_2_0
  have f_1_0 := (kyMg_l (K := (kkX1 0)) (a := an) (b := ad4) (by decide +kernel)).trans fn
  generalize kyMg (kkX1 0) an ad4 = ad5 at hP hD f_5_0 f_5_1 f_0_0 f_2_0 f_1_0
  have hP : va_P D classes ([(h0, .inr (6, [.ref s0, .ref s1, .ref hh, .ref qs, .ref qv, .ref hp, .null, .null, .int 0, .int 0, .null, .null, .null, .int 0, .int 0, .int 0])), (qs, .inl (cy 3, 2, .inr (.inr (.inr (.inr (fun _ => none)))))), (qv, .inl (cy 2, 2, .inl (fun _ => 0)))] ++ kyW cy ad5 ks5) H := hP
  have hD : va_D A ([(h0, .inr (6, [.ref s0, .ref s1, .ref hh, .ref qs, .ref qv, .ref hp, .null, .null, .int 0, .int 0, .null, .null, .null, .int 0, .int 0, .int 0])), (qs, .inl (cy 3, 2, .inr (.inr (.inr (.inr (fun _ => none)))))), (qv, .inl (cy 2, 2, .inl (fun _ => 0)))] ++ kyW cy ad5 ks5) := hD
  refine va_putF (D := D) (ci := 6) (v := .ref n0) (ty := .object RX1) (C := RX6) (T := TX6) (N := 16) hx hb hts wsIn6 tyX6 tyX6_ok nmX6 hown hK hP hD hS 0 rfl rfl 6 (by decide) (hts _ (mg 322 (by decide +kernel) rfl)) (fun _ h9 => h9) rfl hin rfl (by decide +kernel) rfl rfl (Nat.le_of_ble_eq_true rfl) (by decide +kernel : decode cX6_init 71 = .ok (.putfield 44, 3)) (fun H locs hP hD hS => ?_)
  have hP : va_P D classes ([(h0, .inr (6, [.ref s0, .ref s1, .ref hh, .ref qs, .ref qv, .ref hp, .ref n0, .null, .int 0, .int 0, .null, .null, .null, .int 0, .int 0, .int 0])), (qs, .inl (cy 3, 2, .inr (.inr (.inr (.inr (fun _ => none)))))), (qv, .inl (cy 2, 2, .inl (fun _ => 0)))] ++ kyW cy ad5 ks5) H := hP
  have hD : va_D A ([(h0, .inr (6, [.ref s0, .ref s1, .ref hh, .ref qs, .ref qv, .ref hp, .ref n0, .null, .int 0, .int 0, .null, .null, .null, .int 0, .int 0, .int 0])), (qs, .inl (cy 3, 2, .inr (.inr (.inr (.inr (fun _ => none)))))), (qv, .inl (cy 2, 2, .inl (fun _ => 0)))] ++ kyW cy ad5 ks5) := hD
  refine lv_aload_n hx hb (by decide +kernel : decode cX6_init 74 = .ok (.aload_n 0, 1)) rfl (lv_at hl 0 rfl) ?_
  refine va_new (ci := 3) (fs := [.null, .int 0]) (C := RX3) (T := TX3) (N := 2) hx hb hts wsIn3 tyX3 tyX3_ok hown (hts _ (mg 262 (by decide +kernel) rfl)) (hts _ (mg 263 (by decide +kernel) rfl)) (hts _ inRX3) hK hP hD hS hA rfl (fun j hj => by rcases (show j = 0 ∨ j = 1 by omega) with rfl | rfl <;> rfl) (by decide) (by decide) (by decide +kernel : decode cX6_init 75 = .ok (.new 48, 3)) (fun hq H hP hD hS => ?_)
  have hP := hP.swap
  have hD := hD.swap
  have hP : va_P D classes ([(h0, .inr (6, [.ref s0, .ref s1, .ref hh, .ref qs, .ref qv, .ref hp, .ref n0, .null, .int 0, .int 0, .null, .null, .null, .int 0, .int 0, .int 0])), (qs, .inl (cy 3, 2, .inr (.inr (.inr (.inr (fun _ => none)))))), (qv, .inl (cy 2, 2, .inl (fun _ => 0))), (hq, .inr (3, [.null, .int 0]))] ++ kyW cy ad5 ks5) H := hP
  have hD : va_D A ([(h0, .inr (6, [.ref s0, .ref s1, .ref hh, .ref qs, .ref qv, .ref hp, .ref n0, .null, .int 0, .int 0, .null, .null, .null, .int 0, .int 0, .int 0])), (qs, .inl (cy 3, 2, .inr (.inr (.inr (.inr (fun _ => none)))))), (qv, .inl (cy 2, 2, .inl (fun _ => 0))), (hq, .inr (3, [.null, .int 0]))] ++ kyW cy ad5 ks5) := hD
  refine lv_dup hx hb (by decide +kernel : decode cX6_init 78 = .ok (.dup, 1)) rfl ?_
  have hPc := hP.sub (ws' := [(hq, .inr (3, [.null, .int 0]))]) [3] rfl
  have hDc := hD.sub (ws' := [(hq, .inr (3, [.null, .int 0]))]) [3] (by decide) rfl
  have hKc := hK.sub (tys' := []) [] rfl
  have hFc := va_free (wc := [(hq, .inr (3, [.null, .int 0]))]) hD hS hA [3] rfl
  refine va_callv (va_runIN (host := "BottleneckShop") (As := []) (rest := [.ref hq, .ref h0]) ⟨hx, hb, hml, hown, hts⟩ (c_X3_init l D hq H.size) ⟨va_cnB 0 hts (good_sub (fun w hw => (List.mem_cons.mp hw).elim (fun h => by rw [h]; exact mg 266 rfl rfl) (fun h => h))) rfl rfl rfl (hNw _ KRX6_50) (hts _ inRX3) ⟨by decide +kernel, by decide +kernel, by decide +kernel⟩ ⟨Nat.le_of_ble_eq_true rfl, Nat.le_of_ble_eq_true rfl⟩, rfl, (hts _ (mg 265 (by decide +kernel) rfl))⟩ ⟨fun a U g mk q => by obtain ⟨q0, q1, qP, qK, qD⟩ := q; exact ⟨q0, q1, qP, va_K.moved (u := U) (U := U.calling g mk a) (Vm.Alike.refl U.vm) qK, qD⟩, fun U hU hW => ⟨rfl, by rw [hU], by rw [hU]; exact hPc, va_K.moved hW.alike hKc, hDc.weaken (fun _ _ _ _ => trivial)⟩⟩ rfl rfl hl.1 rfl (lv_room (Nat.le_of_ble_eq_true rfl)) (by decide +kernel : decode cX6_init 79 = .ok (.invokespecial 50, 3)) ⟨by decide, by decide⟩) hS (fun q _ h => hFc q h) hFc (fun u t H1 locs ht hvm hu hB hz1 hk1 hS => ?_)
  obtain ⟨an, fn, hP1, hD1⟩ := tk_X3 0 hK hvm hB
  rw [ht] at hP1
  obtain ⟨hP, hD⟩ := va_joinQ (wr := [(h0, .inr (6, [.ref s0, .ref s1, .ref hh, .ref qs, .ref qv, .ref hp, .ref n0, .null, .int 0, .int 0, .null, .null, .null, .int 0, .int 0, .int 0])), (qs, .inl (cy 3, 2, .inr (.inr (.inr (.inr (fun _ => none)))))), (qv, .inl (cy 2, 2, .inl (fun _ => 0)))]) (w1 := kyW cy an (kkX3 0)) (pl := kyW cy ad5 ks5) hP hD [3] [0, 1, 2] rfl rfl (by decide) (by decide) hk1 hFc hP1 hD1
  generalize H1 = H at hP hS ⊢
  rw [List.append_assoc] at hP hD
  obtain ⟨hP, hD⟩ := ky_mrg hP hD (by decide +kernel) hc5 (by decide +kernel)
  have hc6 : kyClo ks6 = true := ky_clo (by decide +kernel) hc5
  have f_5_0 := (kyMg_r (K := (kkX3 0)) (a := an) (b := ad5) (by decide +kernel)).trans f_5_0
  have f_5_1 := (kyMg_r (K := (kkX3 0)) (a := an) (b := ad5) (by decide +kernel)).trans f_5_1
  have f_0_0 := (kyMg_r (K := (kkX3 0)) (a := an) (b := ad5) (by decide +kernel)).trans f_0_0
  have f_2_0 := (kyMg_r (K := (kkX3 0)) (a := an) (b := ad5) (by decide +kernel)).trans f_2_0
  have f_1_0 := (kyMg_r (K := (kkX3 0)) (a := an) (b := ad5) (by decide +kernel)).trans f_1_0
  have f_3_0 := (kyMg_l (K := (kkX3 0)) (a := an) (b := ad5) (by decide +kernel)).trans fn
  generalize kyMg (kkX3 0) an ad5 = ad6 at hP hD f_5_0 f_5_1 f_0_0 f_2_0 f_1_0 f_3_0
  have hP : va_P D classes ([(h0, .inr (6, [.ref s0, .ref s1, .ref hh, .ref qs, .ref qv, .ref hp, .ref n0, .null, .int 0, .int 0, .null, .null, .null, .int 0, .int 0, .int 0])), (qs, .inl (cy 3, 2, .inr (.inr (.inr (.inr (fun _ => none)))))), (qv, .inl (cy 2, 2, .inl (fun _ => 0)))] ++ kyW cy ad6 ks6) H := hP
  have hD : va_D A ([(h0, .inr (6, [.ref s0, .ref s1, .ref hh, .ref qs, .ref qv, .ref hp, .ref n0, .null, .int 0, .int 0, .null, .null, .null, .int 0, .int 0, .int 0])), (qs, .inl (cy 3, 2, .inr (.inr (.inr (.inr (fun _ => none)))))), (qv, .inl (cy 2, 2, .inl (fun _ => 0)))] ++ kyW cy ad6 ks6) := hD
  refine va_putF (D := D) (ci := 6) (v := .ref hq) (ty := .object RX3) (C := RX6) (T := TX6) (N := 16) hx hb hts wsIn6 tyX6 tyX6_ok nmX6 hown hK hP hD hS 0 rfl rfl 7 (by decide) (hts _ (mg 323 (by decide +kernel) rfl)) (fun _ h9 => h9) rfl hin rfl (by decide +kernel) rfl rfl (Nat.le_of_ble_eq_true rfl) (by decide +kernel : decode cX6_init 82 = .ok (.putfield 51, 3)) (fun H locs hP hD hS => ?_)
  have hP : va_P D classes ([(h0, .inr (6, [.ref s0, .ref s1, .ref hh, .ref qs, .ref qv, .ref hp, .ref n0, .ref hq, .int 0, .int 0, .null, .null, .null, .int 0, .int 0, .int 0])), (qs, .inl (cy 3, 2, .inr (.inr (.inr (.inr (fun _ => none)))))), (qv, .inl (cy 2, 2, .inl (fun _ => 0)))] ++ kyW cy ad6 ks6) H := hP
  have hD : va_D A ([(h0, .inr (6, [.ref s0, .ref s1, .ref hh, .ref qs, .ref qv, .ref hp, .ref n0, .ref hq, .int 0, .int 0, .null, .null, .null, .int 0, .int 0, .int 0])), (qs, .inl (cy 3, 2, .inr (.inr (.inr (.inr (fun _ => none)))))), (qv, .inl (cy 2, 2, .inl (fun _ => 0)))] ++ kyW cy ad6 ks6) := hD
  refine lv_aload_n hx hb (by decide +kernel : decode cX6_init 85 = .ok (.aload_n 0, 1)) rfl (lv_at hl 0 rfl) ?_
  refine va_new (ci := 1) (fs := [.null, .null, .null, .null, .null, .null, .null, .null, .int 0, .int 0, .null, .int 0, .null, .null, .null]) (C := RX1) (T := TX1) (N := 15) hx hb hts wsIn1 tyX1 tyX1_ok hown (hts _ (mg 204 (by decide +kernel) rfl)) (hts _ (mg 205 (by decide +kernel) rfl)) (hts _ inRX1) hK hP hD hS hA rfl (fun j hj => by rcases (show j = 0 ∨ j = 1 ∨ j = 2 ∨ j = 3 ∨ j = 4 ∨ j = 5 ∨ j = 6 ∨ j = 7 ∨ j = 8 ∨ j = 9 ∨ j = 10 ∨ j = 11 ∨ j = 12 ∨ j = 13 ∨ j = 14 by omega) with rfl | rfl | rfl | rfl | rfl | rfl | rfl | rfl | rfl | rfl | rfl | rfl | rfl | rfl | rfl <;> rfl) (by decide) (by decide) (by decide +kernel : decode cX6_init 86 = .ok (.new 41, 3)) (fun n1 H hP hD hS => ?_)
  have hP := hP.swap
  have hD := hD.swap
  have hP : va_P D classes ([(h0, .inr (6, [.ref s0, .ref s1, .ref hh, .ref qs, .ref qv, .ref hp, .ref n0, .ref hq, .int 0, .int 0, .null, .null, .null, .int 0, .int 0, .int 0])), (qs, .inl (cy 3, 2, .inr (.inr (.inr (.inr (fun _ => none)))))), (qv, .inl (cy 2, 2, .inl (fun _ => 0))), (n1, .inr (1, [.null, .null, .null, .null, .null, .null, .null, .null, .int 0, .int 0, .null, .int 0, .null, .null, .null]))] ++ kyW cy ad6 ks6) H := hP
  have hD : va_D A ([(h0, .inr (6, [.ref s0, .ref s1, .ref hh, .ref qs, .ref qv, .ref hp, .ref n0, .ref hq, .int 0, .int 0, .null, .null, .null, .int 0, .int 0, .int 0])), (qs, .inl (cy 3, 2, .inr (.inr (.inr (.inr (fun _ => none)))))), (qv, .inl (cy 2, 2, .inl (fun _ => 0))), (n1, .inr (1, [.null, .null, .null, .null, .null, .null, .null, .null, .int 0, .int 0, .null, .int 0, .null, .null, .null]))] ++ kyW cy ad6 ks6) := hD
  refine lv_dup hx hb (by decide +kernel : decode cX6_init 89 = .ok (.dup, 1)) rfl ?_
  have hPc := hP.sub (ws' := [(n1, .inr (1, [.null, .null, .null, .null, .null, .null, .null, .null, .int 0, .int 0, .null, .int 0, .null, .null, .null]))]) [3] rfl
  have hDc := hD.sub (ws' := [(n1, .inr (1, [.null, .null, .null, .null, .null, .null, .null, .null, .int 0, .int 0, .null, .int 0, .null, .null, .null]))]) [3] (by decide) rfl
  have hKc := hK.sub (tys' := []) [] rfl
  have hFc := va_free (wc := [(n1, .inr (1, [.null, .null, .null, .null, .null, .null, .null, .null, .int 0, .int 0, .null, .int 0, .null, .null, .null]))]) hD hS hA [3] rfl
  refine va_callv (va_runIN (host := "BottleneckShop") (As := []) (rest := [.ref n1, .ref h0]) ⟨hx, hb, hml, hown, hts⟩ (c_X1_init l D n1 H.size) ⟨va_cnB 0 hts (good_sub (fun w hw => (List.mem_cons.mp hw).elim (fun h => by rw [h]; exact mg 208 rfl rfl) (fun h => h))) rfl rfl rfl (hNw _ KRX6_43) (hts _ inRX1) ⟨by decide +kernel, by decide +kernel, by decide +kernel⟩ ⟨Nat.le_of_ble_eq_true rfl, Nat.le_of_ble_eq_true rfl⟩, rfl, (hts _ (mg 207 (by decide +kernel) rfl))⟩ ⟨fun a U g mk q => by obtain ⟨q0, q1, qP, qK, qD⟩ := q; exact ⟨q0, q1, qP, va_K.moved (u := U) (U := U.calling g mk a) (Vm.Alike.refl U.vm) qK, qD⟩, fun U hU hW => ⟨rfl, by rw [hU], by rw [hU]; exact hPc, va_K.moved hW.alike hKc, hDc.weaken (fun _ _ _ _ => trivial)⟩⟩ rfl rfl hl.1 rfl (lv_room (Nat.le_of_ble_eq_true rfl)) (by decide +kernel : decode cX6_init 90 = .ok (.invokespecial 43, 3)) ⟨by decide, by decide⟩) hS (fun q _ h => hFc q h) hFc (fun u t H1 locs ht hvm hu hB hz1 hk1 hS => ?_)
  obtain ⟨an, fn, hP1, hD1⟩ := tk_X1 1 hK hvm hB
  rw [ht] at hP1
  obtain ⟨hP, hD⟩ := va_joinQ (wr := [(h0, .inr (6, [.ref s0, .ref s1, .ref hh, .ref qs, .ref qv, .ref hp, .ref n0, .ref hq, .int 0, .int 0, .null, .null, .null, .int 0, .int 0, .int 0])), (qs, .inl (cy 3, 2, .inr (.inr (.inr (.inr (fun _ => none)))))), (qv, .inl (cy 2, 2, .inl (fun _ => 0)))]) (w1 := kyW cy an (kkX1 1)) (pl := kyW cy ad6 ks6) hP hD [3] [0, 1, 2] rfl rfl (by decide) (by decide) hk1 hFc hP1 hD1
  generalize H1 = H at hP hS ⊢
  rw [List.append_assoc] at hP hD
  obtain ⟨hP, hD⟩ := ky_mrg hP hD (by decide +kernel) hc6 (by decide +kernel)
  have hc7 : kyClo ks7 = true := ky_clo (by decide +kernel) hc6
  have f_5_0 := (kyMg_r (K := (kkX1 1)) (a := an) (b := ad6) (by decide +kernel)).trans f_5_0
  have f_5_1 := (kyMg_r (K := (kkX1 1)) (a := an) (b := ad6) (by decide +kernel)).trans f_5_1
  have f_0_0 := (kyMg_r (K := (kkX1 1)) (a := an) (b := ad6) (by decide +kernel)).trans f_0_0
  have f_2_0 := (kyMg_r (K := (kkX1 1)) (a := an) (b := ad6) (by decide +kernel)).trans f_2_0
  have f_1_0 := (kyMg_r (K := (kkX1 1)) (a := an) (b := ad6) (by decide +kernel)).trans f_1_0
  have f_3_0 := (kyMg_r (K := (kkX1 1)) (a := an) (b := ad6) (by decide +kernel)).trans f_3_0
  have f_1_1 := (kyMg_l (K := (kkX1 1)) (a := an) (b := ad6) (by decide +kernel)).trans fn
  generalize kyMg (kkX1 1) an ad6 = ad7 at hP hD f_5_0 f_5_1 f_0_0 f_2_0 f_1_0 f_3_0 f_1_1
  have hP : va_P D classes ([(h0, .inr (6, [.ref s0, .ref s1, .ref hh, .ref qs, .ref qv, .ref hp, .ref n0, .ref hq, .int 0, .int 0, .null, .null, .null, .int 0, .int 0, .int 0])), (qs, .inl (cy 3, 2, .inr (.inr (.inr (.inr (fun _ => none)))))), (qv, .inl (cy 2, 2, .inl (fun _ => 0)))] ++ kyW cy ad7 ks7) H := hP
  have hD : va_D A ([(h0, .inr (6, [.ref s0, .ref s1, .ref hh, .ref qs, .ref qv, .ref hp, .ref n0, .ref hq, .int 0, .int 0, .null, .null, .null, .int 0, .int 0, .int 0])), (qs, .inl (cy 3, 2, .inr (.inr (.inr (.inr (fun _ => none)))))), (qv, .inl (cy 2, 2, .inl (fun _ => 0)))] ++ kyW cy ad7 ks7) := hD
  refine va_putF (D := D) (ci := 6) (v := .ref n1) (ty := .object RX1) (C := RX6) (T := TX6) (N := 16) hx hb hts wsIn6 tyX6 tyX6_ok nmX6 hown hK hP hD hS 0 rfl rfl 10 (by decide) (hts _ (mg 326 (by decide +kernel) rfl)) (fun _ h9 => h9) rfl hin rfl (by decide +kernel) rfl rfl (Nat.le_of_ble_eq_true rfl) (by decide +kernel : decode cX6_init 93 = .ok (.putfield 55, 3)) (fun H locs hP hD hS => ?_)
  have hP : va_P D classes ([(h0, .inr (6, [.ref s0, .ref s1, .ref hh, .ref qs, .ref qv, .ref hp, .ref n0, .ref hq, .int 0, .int 0, .ref n1, .null, .null, .int 0, .int 0, .int 0])), (qs, .inl (cy 3, 2, .inr (.inr (.inr (.inr (fun _ => none)))))), (qv, .inl (cy 2, 2, .inl (fun _ => 0)))] ++ kyW cy ad7 ks7) H := hP
  have hD : va_D A ([(h0, .inr (6, [.ref s0, .ref s1, .ref hh, .ref qs, .ref qv, .ref hp, .ref n0, .ref hq, .int 0, .int 0, .ref n1, .null, .null, .int 0, .int 0, .int 0])), (qs, .inl (cy 3, 2, .inr (.inr (.inr (.inr (fun _ => none)))))), (qv, .inl (cy 2, 2, .inl (fun _ => 0)))] ++ kyW cy ad7 ks7) := hD
  refine lv_aload_n hx hb (by decide +kernel : decode cX6_init 96 = .ok (.aload_n 0, 1)) rfl (lv_at hl 0 rfl) ?_
  refine va_new (ci := 4) (fs := [.null, .int 0, .int 0, .null, .null, .null, .null, .null]) (C := RX4) (T := TX4) (N := 8) hx hb hts wsIn4 tyX4 tyX4_ok hown (hts _ (mg 277 (by decide +kernel) rfl)) (hts _ (mg 278 (by decide +kernel) rfl)) (hts _ inRX4) hK hP hD hS hA rfl (fun j hj => by rcases (show j = 0 ∨ j = 1 ∨ j = 2 ∨ j = 3 ∨ j = 4 ∨ j = 5 ∨ j = 6 ∨ j = 7 by omega) with rfl | rfl | rfl | rfl | rfl | rfl | rfl | rfl <;> rfl) (by decide) (by decide) (by decide +kernel : decode cX6_init 97 = .ok (.new 58, 3)) (fun z0 H hP hD hS => ?_)
  have hP := hP.swap
  have hD := hD.swap
  have hP : va_P D classes ([(h0, .inr (6, [.ref s0, .ref s1, .ref hh, .ref qs, .ref qv, .ref hp, .ref n0, .ref hq, .int 0, .int 0, .ref n1, .null, .null, .int 0, .int 0, .int 0])), (qs, .inl (cy 3, 2, .inr (.inr (.inr (.inr (fun _ => none)))))), (qv, .inl (cy 2, 2, .inl (fun _ => 0))), (z0, .inr (4, [.null, .int 0, .int 0, .null, .null, .null, .null, .null]))] ++ kyW cy ad7 ks7) H := hP
  have hD : va_D A ([(h0, .inr (6, [.ref s0, .ref s1, .ref hh, .ref qs, .ref qv, .ref hp, .ref n0, .ref hq, .int 0, .int 0, .ref n1, .null, .null, .int 0, .int 0, .int 0])), (qs, .inl (cy 3, 2, .inr (.inr (.inr (.inr (fun _ => none)))))), (qv, .inl (cy 2, 2, .inl (fun _ => 0))), (z0, .inr (4, [.null, .int 0, .int 0, .null, .null, .null, .null, .null]))] ++ kyW cy ad7 ks7) := hD
  refine lv_dup hx hb (by decide +kernel : decode cX6_init 100 = .ok (.dup, 1)) rfl ?_
  have hPc := hP.sub (ws' := [(z0, .inr (4, [.null, .int 0, .int 0, .null, .null, .null, .null, .null]))]) [3] rfl
  have hDc := hD.sub (ws' := [(z0, .inr (4, [.null, .int 0, .int 0, .null, .null, .null, .null, .null]))]) [3] (by decide) rfl
  have hKc := hK.sub (tys' := []) [] rfl
  have hFc := va_free (wc := [(z0, .inr (4, [.null, .int 0, .int 0, .null, .null, .null, .null, .null]))]) hD hS hA [3] rfl
  refine va_callv (va_runIN (host := "BottleneckShop") (As := []) (rest := [.ref z0, .ref h0]) ⟨hx, hb, hml, hown, hts⟩ (c_X4_init l D cy z0 H.size 0) ⟨va_cnB 0 hts (good_sub (fun w hw => (List.mem_cons.mp hw).elim (fun h => by rw [h]; exact mg 281 rfl rfl) (fun h => h))) rfl rfl rfl (hNw _ KRX6_60) (hts _ inRX4) ⟨by decide +kernel, by decide +kernel, by decide +kernel⟩ ⟨Nat.le_of_ble_eq_true rfl, Nat.le_of_ble_eq_true rfl⟩, rfl, (hts _ (mg 280 (by decide +kernel) rfl))⟩ ⟨fun a U g mk q => by obtain ⟨q0, q1, qP, qK, qD, qN, qA⟩ := q; exact ⟨q0, q1, qP, va_K.moved (u := U) (U := U.calling g mk a) (Vm.Alike.refl U.vm) qK, qD, nw_same (u := U) rfl qN, kyAM.moved (u := U) (U := U.calling g mk a) (Vm.Alike.refl U.vm) qA⟩, fun U hU hW => ⟨rfl, by rw [hU], by rw [hU]; exact hPc, va_K.moved hW.alike hK, hDc.weaken (fun _ _ _ _ => trivial), nw_warm hW hNw, kyAM.moved hW.alike hAM⟩⟩ rfl rfl hl.1 rfl (lv_room (Nat.le_of_ble_eq_true rfl)) (by decide +kernel : decode cX6_init 101 = .ok (.invokespecial 60, 3)) ⟨by decide, by decide⟩) hS (fun q _ h => hFc q h) hFc (fun u t H1 locs ht hvm hu hB hz1 hk1 hS => ?_)
  obtain ⟨an, fn, hP1, hD1⟩ := hB
  rw [ht] at hP1
  obtain ⟨hP, hD⟩ := va_joinQ (wr := [(h0, .inr (6, [.ref s0, .ref s1, .ref hh, .ref qs, .ref qv, .ref hp, .ref n0, .ref hq, .int 0, .int 0, .ref n1, .null, .null, .int 0, .int 0, .int 0])), (qs, .inl (cy 3, 2, .inr (.inr (.inr (.inr (fun _ => none)))))), (qv, .inl (cy 2, 2, .inl (fun _ => 0)))]) (w1 := kyW cy an (kkX4 0)) (pl := kyW cy ad7 ks7) hP hD [3] [0, 1, 2] rfl rfl (by decide) (by decide) hk1 hFc hP1 hD1
  generalize H1 = H at hP hS ⊢
  rw [List.append_assoc] at hP hD
  obtain ⟨hP, hD⟩ := ky_mrg hP hD (by decide +kernel) hc7 (by decide +kernel)
  have hc8 : kyClo ks8 = true := ky_clo (by decide +kernel) hc7
  have f_5_0 := (kyMg_r (K := (kkX4 0)) (a := an) (b := ad7) (by decide +kernel)).trans f_5_0
  have f_5_1 := (kyMg_r (K := (kkX4 0)) (a := an) (b := ad7) (by decide +kernel)).trans f_5_1
  have f_0_0 := (kyMg_r (K := (kkX4 0)) (a := an) (b := ad7) (by decide +kernel)).trans f_0_0
  have f_2_0 := (kyMg_r (K := (kkX4 0)) (a := an) (b := ad7) (by decide +kernel)).trans f_2_0
  have f_1_0 := (kyMg_r (K := (kkX4 0)) (a := an) (b := ad7) (by decide +kernel)).trans f_1_0
  have f_3_0 := (kyMg_r (K := (kkX4 0)) (a := an) (b := ad7) (by decide +kernel)).trans f_3_0
  have f_1_1 := (kyMg_r (K := (kkX4 0)) (a := an) (b := ad7) (by decide +kernel)).trans f_1_1
  have f_4_0 := (kyMg_l (K := (kkX4 0)) (a := an) (b := ad7) (by decide +kernel)).trans fn
  generalize kyMg (kkX4 0) an ad7 = ad8 at hP hD f_5_0 f_5_1 f_0_0 f_2_0 f_1_0 f_3_0 f_1_1 f_4_0
  have hP : va_P D classes ([(h0, .inr (6, [.ref s0, .ref s1, .ref hh, .ref qs, .ref qv, .ref hp, .ref n0, .ref hq, .int 0, .int 0, .ref n1, .null, .null, .int 0, .int 0, .int 0])), (qs, .inl (cy 3, 2, .inr (.inr (.inr (.inr (fun _ => none)))))), (qv, .inl (cy 2, 2, .inl (fun _ => 0)))] ++ kyW cy ad8 ks8) H := hP
  have hD : va_D A ([(h0, .inr (6, [.ref s0, .ref s1, .ref hh, .ref qs, .ref qv, .ref hp, .ref n0, .ref hq, .int 0, .int 0, .ref n1, .null, .null, .int 0, .int 0, .int 0])), (qs, .inl (cy 3, 2, .inr (.inr (.inr (.inr (fun _ => none)))))), (qv, .inl (cy 2, 2, .inl (fun _ => 0)))] ++ kyW cy ad8 ks8) := hD
  refine va_putF (D := D) (ci := 6) (v := .ref z0) (ty := .object RX4) (C := RX6) (T := TX6) (N := 16) hx hb hts wsIn6 tyX6 tyX6_ok nmX6 hown hK hP hD hS 0 rfl rfl 11 (by decide) (hts _ (mg 327 (by decide +kernel) rfl)) (fun _ h9 => h9) rfl hin rfl (by decide +kernel) rfl rfl (Nat.le_of_ble_eq_true rfl) (by decide +kernel : decode cX6_init 104 = .ok (.putfield 61, 3)) (fun H locs hP hD hS => ?_)
  have hP : va_P D classes ([(h0, .inr (6, [.ref s0, .ref s1, .ref hh, .ref qs, .ref qv, .ref hp, .ref n0, .ref hq, .int 0, .int 0, .ref n1, .ref z0, .null, .int 0, .int 0, .int 0])), (qs, .inl (cy 3, 2, .inr (.inr (.inr (.inr (fun _ => none)))))), (qv, .inl (cy 2, 2, .inl (fun _ => 0)))] ++ kyW cy ad8 ks8) H := hP
  have hD : va_D A ([(h0, .inr (6, [.ref s0, .ref s1, .ref hh, .ref qs, .ref qv, .ref hp, .ref n0, .ref hq, .int 0, .int 0, .ref n1, .ref z0, .null, .int 0, .int 0, .int 0])), (qs, .inl (cy 3, 2, .inr (.inr (.inr (.inr (fun _ => none)))))), (qv, .inl (cy 2, 2, .inl (fun _ => 0)))] ++ kyW cy ad8 ks8) := hD
  refine lv_aload_n hx hb (by decide +kernel : decode cX6_init 107 = .ok (.aload_n 0, 1)) rfl (lv_at hl 0 rfl) ?_
  refine va_new (ci := 4) (fs := [.null, .int 0, .int 0, .null, .null, .null, .null, .null]) (C := RX4) (T := TX4) (N := 8) hx hb hts wsIn4 tyX4 tyX4_ok hown (hts _ (mg 277 (by decide +kernel) rfl)) (hts _ (mg 278 (by decide +kernel) rfl)) (hts _ inRX4) hK hP hD hS hA rfl (fun j hj => by rcases (show j = 0 ∨ j = 1 ∨ j = 2 ∨ j = 3 ∨ j = 4 ∨ j = 5 ∨ j = 6 ∨ j = 7 by omega) with rfl | rfl | rfl | rfl | rfl | rfl | rfl | rfl <;> rfl) (by decide) (by decide) (by decide +kernel : decode cX6_init 108 = .ok (.new 58, 3)) (fun z1 H hP hD hS => ?_)
  have hP := hP.swap
  have hD := hD.swap
  have hP : va_P D classes ([(h0, .inr (6, [.ref s0, .ref s1, .ref hh, .ref qs, .ref qv, .ref hp, .ref n0, .ref hq, .int 0, .int 0, .ref n1, .ref z0, .null, .int 0, .int 0, .int 0])), (qs, .inl (cy 3, 2, .inr (.inr (.inr (.inr (fun _ => none)))))), (qv, .inl (cy 2, 2, .inl (fun _ => 0))), (z1, .inr (4, [.null, .int 0, .int 0, .null, .null, .null, .null, .null]))] ++ kyW cy ad8 ks8) H := hP
  have hD : va_D A ([(h0, .inr (6, [.ref s0, .ref s1, .ref hh, .ref qs, .ref qv, .ref hp, .ref n0, .ref hq, .int 0, .int 0, .ref n1, .ref z0, .null, .int 0, .int 0, .int 0])), (qs, .inl (cy 3, 2, .inr (.inr (.inr (.inr (fun _ => none)))))), (qv, .inl (cy 2, 2, .inl (fun _ => 0))), (z1, .inr (4, [.null, .int 0, .int 0, .null, .null, .null, .null, .null]))] ++ kyW cy ad8 ks8) := hD
  refine lv_dup hx hb (by decide +kernel : decode cX6_init 111 = .ok (.dup, 1)) rfl ?_
  have hPc := hP.sub (ws' := [(z1, .inr (4, [.null, .int 0, .int 0, .null, .null, .null, .null, .null]))]) [3] rfl
  have hDc := hD.sub (ws' := [(z1, .inr (4, [.null, .int 0, .int 0, .null, .null, .null, .null, .null]))]) [3] (by decide) rfl
  have hKc := hK.sub (tys' := []) [] rfl
  have hFc := va_free (wc := [(z1, .inr (4, [.null, .int 0, .int 0, .null, .null, .null, .null, .null]))]) hD hS hA [3] rfl
  refine va_callv (va_runIN (host := "BottleneckShop") (As := []) (rest := [.ref z1, .ref h0]) ⟨hx, hb, hml, hown, hts⟩ (c_X4_init l D cy z1 H.size 1) ⟨va_cnB 0 hts (good_sub (fun w hw => (List.mem_cons.mp hw).elim (fun h => by rw [h]; exact mg 281 rfl rfl) (fun h => h))) rfl rfl rfl (hNw _ KRX6_60) (hts _ inRX4) ⟨by decide +kernel, by decide +kernel, by decide +kernel⟩ ⟨Nat.le_of_ble_eq_true rfl, Nat.le_of_ble_eq_true rfl⟩, rfl, (hts _ (mg 280 (by decide +kernel) rfl))⟩ ⟨fun a U g mk q => by obtain ⟨q0, q1, qP, qK, qD, qN, qA⟩ := q; exact ⟨q0, q1, qP, va_K.moved (u := U) (U := U.calling g mk a) (Vm.Alike.refl U.vm) qK, qD, nw_same (u := U) rfl qN, kyAM.moved (u := U) (U := U.calling g mk a) (Vm.Alike.refl U.vm) qA⟩, fun U hU hW => ⟨rfl, by rw [hU], by rw [hU]; exact hPc, va_K.moved hW.alike hK, hDc.weaken (fun _ _ _ _ => trivial), nw_warm hW hNw, kyAM.moved hW.alike hAM⟩⟩ rfl rfl hl.1 rfl (lv_room (Nat.le_of_ble_eq_true rfl)) (by decide +kernel : decode cX6_init 112 = .ok (.invokespecial 60, 3)) ⟨by decide, by decide⟩) hS (fun q _ h => hFc q h) hFc (fun u t H1 locs ht hvm hu hB hz1 hk1 hS => ?_)
  obtain ⟨an, fn, hP1, hD1⟩ := hB
  rw [ht] at hP1
  obtain ⟨hP, hD⟩ := va_joinQ (wr := [(h0, .inr (6, [.ref s0, .ref s1, .ref hh, .ref qs, .ref qv, .ref hp, .ref n0, .ref hq, .int 0, .int 0, .ref n1, .ref z0, .null, .int 0, .int 0, .int 0])), (qs, .inl (cy 3, 2, .inr (.inr (.inr (.inr (fun _ => none)))))), (qv, .inl (cy 2, 2, .inl (fun _ => 0)))]) (w1 := kyW cy an (kkX4 1)) (pl := kyW cy ad8 ks8) hP hD [3] [0, 1, 2] rfl rfl (by decide) (by decide) hk1 hFc hP1 hD1
  generalize H1 = H at hP hS ⊢
  rw [List.append_assoc] at hP hD
  obtain ⟨hP, hD⟩ := ky_mrg hP hD (by decide +kernel) hc8 (by decide +kernel)
  have hc9 : kyClo ks9 = true := ky_clo (by decide +kernel) hc8
  have f_5_0 := (kyMg_r (K := (kkX4 1)) (a := an) (b := ad8) (by decide +kernel)).trans f_5_0
  have f_5_1 := (kyMg_r (K := (kkX4 1)) (a := an) (b := ad8) (by decide +kernel)).trans f_5_1
  have f_0_0 := (kyMg_r (K := (kkX4 1)) (a := an) (b := ad8) (by decide +kernel)).trans f_0_0
  have f_2_0 := (kyMg_r (K := (kkX4 1)) (a := an) (b := ad8) (by decide +kernel)).trans f_2_0
  have f_1_0 := (kyMg_r (K := (kkX4 1)) (a := an) (b := ad8) (by decide +kernel)).trans f_1_0
  have f_3_0 := (kyMg_r (K := (kkX4 1)) (a := an) (b := ad8) (by decide +kernel)).trans f_3_0
  have f_1_1 := (kyMg_r (K := (kkX4 1)) (a := an) (b := ad8) (by decide +kernel)).trans f_1_1
  have f_4_0 := (kyMg_r (K := (kkX4 1)) (a := an) (b := ad8) (by decide +kernel)).trans f_4_0
  have f_4_1 := (kyMg_l (K := (kkX4 1)) (a := an) (b := ad8) (by decide +kernel)).trans fn
  generalize kyMg (kkX4 1) an ad8 = ad9 at hP hD f_5_0 f_5_1 f_0_0 f_2_0 f_1_0 f_3_0 f_1_1 f_4_0 f_4_1
  have hP : va_P D classes ([(h0, .inr (6, [.ref s0, .ref s1, .ref hh, .ref qs, .ref qv, .ref hp, .ref n0, .ref hq, .int 0, .int 0, .ref n1, .ref z0, .null, .int 0, .int 0, .int 0])), (qs, .inl (cy 3, 2, .inr (.inr (.inr (.inr (fun _ => none)))))), (qv, .inl (cy 2, 2, .inl (fun _ => 0)))] ++ kyW cy ad9 ks9) H := hP
  have hD : va_D A ([(h0, .inr (6, [.ref s0, .ref s1, .ref hh, .ref qs, .ref qv, .ref hp, .ref n0, .ref hq, .int 0, .int 0, .ref n1, .ref z0, .null, .int 0, .int 0, .int 0])), (qs, .inl (cy 3, 2, .inr (.inr (.inr (.inr (fun _ => none)))))), (qv, .inl (cy 2, 2, .inl (fun _ => 0)))] ++ kyW cy ad9 ks9) := hD
  refine va_putF (D := D) (ci := 6) (v := .ref z1) (ty := .object RX4) (C := RX6) (T := TX6) (N := 16) hx hb hts wsIn6 tyX6 tyX6_ok nmX6 hown hK hP hD hS 0 rfl rfl 12 (by decide) (hts _ (mg 328 (by decide +kernel) rfl)) (fun _ h9 => h9) rfl hin rfl (by decide +kernel) rfl rfl (Nat.le_of_ble_eq_true rfl) (by decide +kernel : decode cX6_init 115 = .ok (.putfield 65, 3)) (fun H locs hP hD hS => ?_)
  have hP : va_P D classes ([(h0, .inr (6, [.ref s0, .ref s1, .ref hh, .ref qs, .ref qv, .ref hp, .ref n0, .ref hq, .int 0, .int 0, .ref n1, .ref z0, .ref z1, .int 0, .int 0, .int 0])), (qs, .inl (cy 3, 2, .inr (.inr (.inr (.inr (fun _ => none)))))), (qv, .inl (cy 2, 2, .inl (fun _ => 0)))] ++ kyW cy ad9 ks9) H := hP
  have hD : va_D A ([(h0, .inr (6, [.ref s0, .ref s1, .ref hh, .ref qs, .ref qv, .ref hp, .ref n0, .ref hq, .int 0, .int 0, .ref n1, .ref z0, .ref z1, .int 0, .int 0, .int 0])), (qs, .inl (cy 3, 2, .inr (.inr (.inr (.inr (fun _ => none)))))), (qv, .inl (cy 2, 2, .inl (fun _ => 0)))] ++ kyW cy ad9 ks9) := hD
  refine lv_iconst (v := 0) hx hb (by decide +kernel : decode cX6_init 118 = .ok (.iconst 0, 1)) (by decide) ?_
  refine lv_istore_n (lv' := [(1, .int 0), (0, .ref h0)]) hx hb (by decide +kernel : decode cX6_init 119 = .ok (.istore_n 1, 1)) rfl hl (by decide) rfl (fun ls hl => ?_)
  refine lv_iload_n hx hb (by decide +kernel : decode cX6_init 120 = .ok (.iload_n 1, 1)) rfl (lv_at hl 0 rfl) ?_
  refine lv_iconst (v := 2) hx hb (by decide +kernel : decode cX6_init 121 = .ok (.iconst 2, 1)) (by decide) ?_
  refine lv_icmp_ge (tgt := 144) hx hb (by decide +kernel : decode cX6_init 122 = .ok (.if_icmp .ge 22, 3)) (by decide) (fun h => absurd h (by decide)) (fun _ => ?_)
  refine lv_aload_n hx hb (by decide +kernel : decode cX6_init 125 = .ok (.aload_n 0, 1)) rfl (lv_at hl 1 rfl) ?_
  refine va_get (D := D) (ci := 6) (v := .ref qs) (C := RX6) (T := TX6) (N := 16) hx hb hts wsIn6 hown hK hP 0 rfl rfl 3 (by decide) (hts _ (mg 319 (by decide +kernel) rfl)) (fun _ h9 => h9) rfl (by decide +kernel : decode cX6_init 126 = .ok (.getfield 26, 3)) ?_
  refine lv_iload_n hx hb (by decide +kernel : decode cX6_init 129 = .ok (.iload_n 1, 1)) rfl (lv_at hl 0 rfl) ?_
  refine va_new (ci := 5) (fs := [.int 0, .null, .null, .null, .null, .null, .null, .null]) (C := RX5) (T := TX5) (N := 8) hx hb hts wsIn5 tyX5 tyX5_ok hown (hts _ (mg 113 (by decide +kernel) rfl)) (hts _ (mg 114 (by decide +kernel) rfl)) (hts _ inRX5) hK hP hD hS hA rfl (fun j hj => by rcases (show j = 0 ∨ j = 1 ∨ j = 2 ∨ j = 3 ∨ j = 4 ∨ j = 5 ∨ j = 6 ∨ j = 7 by omega) with rfl | rfl | rfl | rfl | rfl | rfl | rfl | rfl <;> rfl) (by decide) (by decide) (by decide +kernel : decode cX6_init 130 = .ok (.new 7, 3)) (fun s8 H hP hD hS => ?_)
  have hP := hP.swap
  have hD := hD.swap
  have hP : va_P D classes ([(h0, .inr (6, [.ref s0, .ref s1, .ref hh, .ref qs, .ref qv, .ref hp, .ref n0, .ref hq, .int 0, .int 0, .ref n1, .ref z0, .ref z1, .int 0, .int 0, .int 0])), (qs, .inl (cy 3, 2, .inr (.inr (.inr (.inr (fun _ => none)))))), (qv, .inl (cy 2, 2, .inl (fun _ => 0))), (s8, .inr (5, [.int 0, .null, .null, .null, .null, .null, .null, .null]))] ++ kyW cy ad9 ks9) H := hP
  have hD : va_D A ([(h0, .inr (6, [.ref s0, .ref s1, .ref hh, .ref qs, .ref qv, .ref hp, .ref n0, .ref hq, .int 0, .int 0, .ref n1, .ref z0, .ref z1, .int 0, .int 0, .int 0])), (qs, .inl (cy 3, 2, .inr (.inr (.inr (.inr (fun _ => none)))))), (qv, .inl (cy 2, 2, .inl (fun _ => 0))), (s8, .inr (5, [.int 0, .null, .null, .null, .null, .null, .null, .null]))] ++ kyW cy ad9 ks9) := hD
  refine lv_dup hx hb (by decide +kernel : decode cX6_init 133 = .ok (.dup, 1)) rfl ?_
  have hPc := hP.sub (ws' := [(s8, .inr (5, [.int 0, .null, .null, .null, .null, .null, .null, .null]))]) [3] rfl
  have hDc := hD.sub (ws' := [(s8, .inr (5, [.int 0, .null, .null, .null, .null, .null, .null, .null]))]) [3] (by decide) rfl
  have hKc := hK.sub (tys' := []) [] rfl
  have hFc := va_free (wc := [(s8, .inr (5, [.int 0, .null, .null, .null, .null, .null, .null, .null]))]) hD hS hA [3] rfl
  refine va_callv (va_runIN (host := "BottleneckShop") (As := []) (rest := [.ref s8, .int 0, .ref qs]) ⟨hx, hb, hml, hown, hts⟩ (c_X5_init l D s8 H.size) ⟨va_cnB 0 hts (good_sub (fun w hw => (List.mem_cons.mp hw).elim (fun h => by rw [h]; exact mg 117 rfl rfl) (fun h => h))) rfl rfl rfl (hNw _ KRX6_9) (hts _ inRX5) ⟨by decide +kernel, by decide +kernel, by decide +kernel⟩ ⟨Nat.le_of_ble_eq_true rfl, Nat.le_of_ble_eq_true rfl⟩, rfl, (hts _ (mg 116 (by decide +kernel) rfl))⟩ ⟨fun a U g mk q => by obtain ⟨q0, q1, qP, qK, qD⟩ := q; exact ⟨q0, q1, qP, va_K.moved (u := U) (U := U.calling g mk a) (Vm.Alike.refl U.vm) qK, qD⟩, fun U hU hW => ⟨rfl, by rw [hU], by rw [hU]; exact hPc, va_K.moved hW.alike hKc, hDc.weaken (fun _ _ _ _ => trivial)⟩⟩ rfl rfl hl.1 rfl (lv_room (Nat.le_of_ble_eq_true rfl)) (by decide +kernel : decode cX6_init 134 = .ok (.invokespecial 9, 3)) ⟨by decide, by decide⟩) hS (fun q _ h => hFc q h) hFc (fun u t H1 locs ht hvm hu hB hz1 hk1 hS => ?_)
  obtain ⟨an, fn, hP1, hD1⟩ := tk_X5 8 hK hvm hB
  rw [ht] at hP1
  obtain ⟨hP, hD⟩ := va_joinQ (wr := [(h0, .inr (6, [.ref s0, .ref s1, .ref hh, .ref qs, .ref qv, .ref hp, .ref n0, .ref hq, .int 0, .int 0, .ref n1, .ref z0, .ref z1, .int 0, .int 0, .int 0])), (qs, .inl (cy 3, 2, .inr (.inr (.inr (.inr (fun _ => none)))))), (qv, .inl (cy 2, 2, .inl (fun _ => 0)))]) (w1 := kyW cy an (kkX5 8)) (pl := kyW cy ad9 ks9) hP hD [3] [0, 1, 2] rfl rfl (by decide) (by decide) hk1 hFc hP1 hD1
  generalize H1 = H at hP hS ⊢
  refine va_astq hx hb hK hP hD hS 1 3 3 5 rfl rfl (congrArg (fun x => some (x, (Sum.inr (5, _) : va_E))) fn) rfl (by unfold vp_in; decide) (by decide +kernel : decode cX6_init 137 = .ok (.aastore, 1)) (fun H locs hP hD hS => ?_)
  have hP : va_P D classes (([(h0, .inr (6, [.ref s0, .ref s1, .ref hh, .ref qs, .ref qv, .ref hp, .ref n0, .ref hq, .int 0, .int 0, .ref n1, .ref z0, .ref z1, .int 0, .int 0, .int 0])), (qs, .inl (cy 3, 2, .inr (.inr (.inr (.inr (va_up (fun _ => none) (0 : Int32).toNatClampNeg (some s8))))))), (qv, .inl (cy 2, 2, .inl (fun _ => 0)))] ++ kyW cy an (kkX5 8)) ++ kyW cy ad9 ks9) H := hP
  have hD : va_D A (([(h0, .inr (6, [.ref s0, .ref s1, .ref hh, .ref qs, .ref qv, .ref hp, .ref n0, .ref hq, .int 0, .int 0, .ref n1, .ref z0, .ref z1, .int 0, .int 0, .int 0])), (qs, .inl (cy 3, 2, .inr (.inr (.inr (.inr (va_up (fun _ => none) (0 : Int32).toNatClampNeg (some s8))))))), (qv, .inl (cy 2, 2, .inl (fun _ => 0)))] ++ kyW cy an (kkX5 8)) ++ kyW cy ad9 ks9) := hD
  rw [List.append_assoc] at hP hD
  obtain ⟨hP, hD⟩ := ky_mrg hP hD (by decide +kernel) hc9 (by decide +kernel)
  have hc10 : kyClo ks10 = true := ky_clo (by decide +kernel) hc9
  have f_5_0 := (kyMg_r (K := (kkX5 8)) (a := an) (b := ad9) (by decide +kernel)).trans f_5_0
  have f_5_1 := (kyMg_r (K := (kkX5 8)) (a := an) (b := ad9) (by decide +kernel)).trans f_5_1
  have f_0_0 := (kyMg_r (K := (kkX5 8)) (a := an) (b := ad9) (by decide +kernel)).trans f_0_0
  have f_2_0 := (kyMg_r (K := (kkX5 8)) (a := an) (b := ad9) (by decide +kernel)).trans f_2_0
  have f_1_0 := (kyMg_r (K := (kkX5 8)) (a := an) (b := ad9) (by decide +kernel)).trans f_1_0
  have f_3_0 := (kyMg_r (K := (kkX5 8)) (a := an) (b := ad9) (by decide +kernel)).trans f_3_0
  have f_1_1 := (kyMg_r (K := (kkX5 8)) (a := an) (b := ad9) (by decide +kernel)).trans f_1_1
  have f_4_0 := (kyMg_r (K := (kkX5 8)) (a := an) (b := ad9) (by decide +kernel)).trans f_4_0
  have f_4_1 := (kyMg_r (K := (kkX5 8)) (a := an) (b := ad9) (by decide +kernel)).trans f_4_1
  have f_5_8 := (kyMg_l (K := (kkX5 8)) (a := an) (b := ad9) (by decide +kernel)).trans fn
  generalize kyMg (kkX5 8) an ad9 = ad10 at hP hD f_5_0 f_5_1 f_0_0 f_2_0 f_1_0 f_3_0 f_1_1 f_4_0 f_4_1 f_5_8
  have hP : va_P D classes ([(h0, .inr (6, [.ref s0, .ref s1, .ref hh, .ref qs, .ref qv, .ref hp, .ref n0, .ref hq, .int 0, .int 0, .ref n1, .ref z0, .ref z1, .int 0, .int 0, .int 0])), (qs, .inl (cy 3, 2, .inr (.inr (.inr (.inr (va_up (fun _ => none) (0 : Int32).toNatClampNeg (some s8))))))), (qv, .inl (cy 2, 2, .inl (fun _ => 0)))] ++ kyW cy ad10 ks10) H := hP
  have hD : va_D A ([(h0, .inr (6, [.ref s0, .ref s1, .ref hh, .ref qs, .ref qv, .ref hp, .ref n0, .ref hq, .int 0, .int 0, .ref n1, .ref z0, .ref z1, .int 0, .int 0, .int 0])), (qs, .inl (cy 3, 2, .inr (.inr (.inr (.inr (va_up (fun _ => none) (0 : Int32).toNatClampNeg (some s8))))))), (qv, .inl (cy 2, 2, .inl (fun _ => 0)))] ++ kyW cy ad10 ks10) := hD
  refine lv_iinc (v := 1) (lv' := [(1, .int 1), (0, .ref h0)]) (k := 0) hx hb (by decide +kernel : decode cX6_init 138 = .ok (.iinc 1 1, 3)) hl rfl (by decide) (by decide) rfl (fun ls hl => ?_)
  refine lv_goto (tgt := 120) hx hb (by decide +kernel : decode cX6_init 141 = .ok (.goto (-21), 3)) (by decide) ?_
  refine lv_iload_n hx hb (by decide +kernel : decode cX6_init 120 = .ok (.iload_n 1, 1)) rfl (lv_at hl 0 rfl) ?_
  refine lv_iconst (v := 2) hx hb (by decide +kernel : decode cX6_init 121 = .ok (.iconst 2, 1)) (by decide) ?_
  refine lv_icmp_ge (tgt := 144) hx hb (by decide +kernel : decode cX6_init 122 = .ok (.if_icmp .ge 22, 3)) (by decide) (fun h => absurd h (by decide)) (fun _ => ?_)
  refine lv_aload_n hx hb (by decide +kernel : decode cX6_init 125 = .ok (.aload_n 0, 1)) rfl (lv_at hl 1 rfl) ?_
  refine va_get (D := D) (ci := 6) (v := .ref qs) (C := RX6) (T := TX6) (N := 16) hx hb hts wsIn6 hown hK hP 0 rfl rfl 3 (by decide) (hts _ (mg 319 (by decide +kernel) rfl)) (fun _ h9 => h9) rfl (by decide +kernel : decode cX6_init 126 = .ok (.getfield 26, 3)) ?_
  refine lv_iload_n hx hb (by decide +kernel : decode cX6_init 129 = .ok (.iload_n 1, 1)) rfl (lv_at hl 0 rfl) ?_
  refine va_new (ci := 5) (fs := [.int 0, .null, .null, .null, .null, .null, .null, .null]) (C := RX5) (T := TX5) (N := 8) hx hb hts wsIn5 tyX5 tyX5_ok hown (hts _ (mg 113 (by decide +kernel) rfl)) (hts _ (mg 114 (by decide +kernel) rfl)) (hts _ inRX5) hK hP hD hS hA rfl (fun j hj => by rcases (show j = 0 ∨ j = 1 ∨ j = 2 ∨ j = 3 ∨ j = 4 ∨ j = 5 ∨ j = 6 ∨ j = 7 by omega) with rfl | rfl | rfl | rfl | rfl | rfl | rfl | rfl <;> rfl) (by decide) (by decide) (by decide +kernel : decode cX6_init 130 = .ok (.new 7, 3)) (fun s9 H hP hD hS => ?_)
  have hP := hP.swap
  have hD := hD.swap
  have hP : va_P D classes ([(h0, .inr (6, [.ref s0, .ref s1, .ref hh, .ref qs, .ref qv, .ref hp, .ref n0, .ref hq, .int 0, .int 0, .ref n1, .ref z0, .ref z1, .int 0, .int 0, .int 0])), (qs, .inl (cy 3, 2, .inr (.inr (.inr (.inr (va_up (fun _ => none) (0 : Int32).toNatClampNeg (some s8))))))), (qv, .inl (cy 2, 2, .inl (fun _ => 0))), (s9, .inr (5, [.int 0, .null, .null, .null, .null, .null, .null, .null]))] ++ kyW cy ad10 ks10) H := hP
  have hD : va_D A ([(h0, .inr (6, [.ref s0, .ref s1, .ref hh, .ref qs, .ref qv, .ref hp, .ref n0, .ref hq, .int 0, .int 0, .ref n1, .ref z0, .ref z1, .int 0, .int 0, .int 0])), (qs, .inl (cy 3, 2, .inr (.inr (.inr (.inr (va_up (fun _ => none) (0 : Int32).toNatClampNeg (some s8))))))), (qv, .inl (cy 2, 2, .inl (fun _ => 0))), (s9, .inr (5, [.int 0, .null, .null, .null, .null, .null, .null, .null]))] ++ kyW cy ad10 ks10) := hD
  refine lv_dup hx hb (by decide +kernel : decode cX6_init 133 = .ok (.dup, 1)) rfl ?_
  have hPc := hP.sub (ws' := [(s9, .inr (5, [.int 0, .null, .null, .null, .null, .null, .null, .null]))]) [3] rfl
  have hDc := hD.sub (ws' := [(s9, .inr (5, [.int 0, .null, .null, .null, .null, .null, .null, .null]))]) [3] (by decide) rfl
  have hKc := hK.sub (tys' := []) [] rfl
  have hFc := va_free (wc := [(s9, .inr (5, [.int 0, .null, .null, .null, .null, .null, .null, .null]))]) hD hS hA [3] rfl
  refine va_callv (va_runIN (host := "BottleneckShop") (As := []) (rest := [.ref s9, .int 1, .ref qs]) ⟨hx, hb, hml, hown, hts⟩ (c_X5_init l D s9 H.size) ⟨va_cnB 0 hts (good_sub (fun w hw => (List.mem_cons.mp hw).elim (fun h => by rw [h]; exact mg 117 rfl rfl) (fun h => h))) rfl rfl rfl (hNw _ KRX6_9) (hts _ inRX5) ⟨by decide +kernel, by decide +kernel, by decide +kernel⟩ ⟨Nat.le_of_ble_eq_true rfl, Nat.le_of_ble_eq_true rfl⟩, rfl, (hts _ (mg 116 (by decide +kernel) rfl))⟩ ⟨fun a U g mk q => by obtain ⟨q0, q1, qP, qK, qD⟩ := q; exact ⟨q0, q1, qP, va_K.moved (u := U) (U := U.calling g mk a) (Vm.Alike.refl U.vm) qK, qD⟩, fun U hU hW => ⟨rfl, by rw [hU], by rw [hU]; exact hPc, va_K.moved hW.alike hKc, hDc.weaken (fun _ _ _ _ => trivial)⟩⟩ rfl rfl hl.1 rfl (lv_room (Nat.le_of_ble_eq_true rfl)) (by decide +kernel : decode cX6_init 134 = .ok (.invokespecial 9, 3)) ⟨by decide, by decide⟩) hS (fun q _ h => hFc q h) hFc (fun u t H1 locs ht hvm hu hB hz1 hk1 hS => ?_)
  obtain ⟨an, fn, hP1, hD1⟩ := tk_X5 9 hK hvm hB
  rw [ht] at hP1
  obtain ⟨hP, hD⟩ := va_joinQ (wr := [(h0, .inr (6, [.ref s0, .ref s1, .ref hh, .ref qs, .ref qv, .ref hp, .ref n0, .ref hq, .int 0, .int 0, .ref n1, .ref z0, .ref z1, .int 0, .int 0, .int 0])), (qs, .inl (cy 3, 2, .inr (.inr (.inr (.inr (va_up (fun _ => none) (0 : Int32).toNatClampNeg (some s8))))))), (qv, .inl (cy 2, 2, .inl (fun _ => 0)))]) (w1 := kyW cy an (kkX5 9)) (pl := kyW cy ad10 ks10) hP hD [3] [0, 1, 2] rfl rfl (by decide) (by decide) hk1 hFc hP1 hD1
  generalize H1 = H at hP hS ⊢
  refine va_astq hx hb hK hP hD hS 1 3 3 5 rfl rfl (congrArg (fun x => some (x, (Sum.inr (5, _) : va_E))) fn) rfl (by unfold vp_in; decide) (by decide +kernel : decode cX6_init 137 = .ok (.aastore, 1)) (fun H locs hP hD hS => ?_)
  have hP : va_P D classes (([(h0, .inr (6, [.ref s0, .ref s1, .ref hh, .ref qs, .ref qv, .ref hp, .ref n0, .ref hq, .int 0, .int 0, .ref n1, .ref z0, .ref z1, .int 0, .int 0, .int 0])), (qs, .inl (cy 3, 2, .inr (.inr (.inr (.inr (va_up (va_up (fun _ => none) (0 : Int32).toNatClampNeg (some s8)) (1 : Int32).toNatClampNeg (some s9))))))), (qv, .inl (cy 2, 2, .inl (fun _ => 0)))] ++ kyW cy an (kkX5 9)) ++ kyW cy ad10 ks10) H := hP
  have hD : va_D A (([(h0, .inr (6, [.ref s0, .ref s1, .ref hh, .ref qs, .ref qv, .ref hp, .ref n0, .ref hq, .int 0, .int 0, .ref n1, .ref z0, .ref z1, .int 0, .int 0, .int 0])), (qs, .inl (cy 3, 2, .inr (.inr (.inr (.inr (va_up (va_up (fun _ => none) (0 : Int32).toNatClampNeg (some s8)) (1 : Int32).toNatClampNeg (some s9))))))), (qv, .inl (cy 2, 2, .inl (fun _ => 0)))] ++ kyW cy an (kkX5 9)) ++ kyW cy ad10 ks10) := hD
  rw [List.append_assoc] at hP hD
  obtain ⟨hP, hD⟩ := ky_mrg hP hD (by decide +kernel) hc10 (by decide +kernel)
  have hc11 : kyClo ks11 = true := ky_clo (by decide +kernel) hc10
  have f_5_0 := (kyMg_r (K := (kkX5 9)) (a := an) (b := ad10) (by decide +kernel)).trans f_5_0
  have f_5_1 := (kyMg_r (K := (kkX5 9)) (a := an) (b := ad10) (by decide +kernel)).trans f_5_1
  have f_0_0 := (kyMg_r (K := (kkX5 9)) (a := an) (b := ad10) (by decide +kernel)).trans f_0_0
  have f_2_0 := (kyMg_r (K := (kkX5 9)) (a := an) (b := ad10) (by decide +kernel)).trans f_2_0
  have f_1_0 := (kyMg_r (K := (kkX5 9)) (a := an) (b := ad10) (by decide +kernel)).trans f_1_0
  have f_3_0 := (kyMg_r (K := (kkX5 9)) (a := an) (b := ad10) (by decide +kernel)).trans f_3_0
  have f_1_1 := (kyMg_r (K := (kkX5 9)) (a := an) (b := ad10) (by decide +kernel)).trans f_1_1
  have f_4_0 := (kyMg_r (K := (kkX5 9)) (a := an) (b := ad10) (by decide +kernel)).trans f_4_0
  have f_4_1 := (kyMg_r (K := (kkX5 9)) (a := an) (b := ad10) (by decide +kernel)).trans f_4_1
  have f_5_8 := (kyMg_r (K := (kkX5 9)) (a := an) (b := ad10) (by decide +kernel)).trans f_5_8
  have f_5_9 := (kyMg_l (K := (kkX5 9)) (a := an) (b := ad10) (by decide +kernel)).trans fn
  generalize kyMg (kkX5 9) an ad10 = ad11 at hP hD f_5_0 f_5_1 f_0_0 f_2_0 f_1_0 f_3_0 f_1_1 f_4_0 f_4_1 f_5_8 f_5_9
  have hP : va_P D classes ([(h0, .inr (6, [.ref s0, .ref s1, .ref hh, .ref qs, .ref qv, .ref hp, .ref n0, .ref hq, .int 0, .int 0, .ref n1, .ref z0, .ref z1, .int 0, .int 0, .int 0])), (qs, .inl (cy 3, 2, .inr (.inr (.inr (.inr (va_up (va_up (fun _ => none) (0 : Int32).toNatClampNeg (some s8)) (1 : Int32).toNatClampNeg (some s9))))))), (qv, .inl (cy 2, 2, .inl (fun _ => 0)))] ++ kyW cy ad11 ks11) H := hP
  have hD : va_D A ([(h0, .inr (6, [.ref s0, .ref s1, .ref hh, .ref qs, .ref qv, .ref hp, .ref n0, .ref hq, .int 0, .int 0, .ref n1, .ref z0, .ref z1, .int 0, .int 0, .int 0])), (qs, .inl (cy 3, 2, .inr (.inr (.inr (.inr (va_up (va_up (fun _ => none) (0 : Int32).toNatClampNeg (some s8)) (1 : Int32).toNatClampNeg (some s9))))))), (qv, .inl (cy 2, 2, .inl (fun _ => 0)))] ++ kyW cy ad11 ks11) := hD
  refine lv_iinc (v := 2) (lv' := [(1, .int 2), (0, .ref h0)]) (k := 0) hx hb (by decide +kernel : decode cX6_init 138 = .ok (.iinc 1 1, 3)) hl rfl (by decide) (by decide) rfl (fun ls hl => ?_)
  refine lv_goto (tgt := 120) hx hb (by decide +kernel : decode cX6_init 141 = .ok (.goto (-21), 3)) (by decide) ?_
  refine lv_iload_n hx hb (by decide +kernel : decode cX6_init 120 = .ok (.iload_n 1, 1)) rfl (lv_at hl 0 rfl) ?_
  refine lv_iconst (v := 2) hx hb (by decide +kernel : decode cX6_init 121 = .ok (.iconst 2, 1)) (by decide) ?_
  refine lv_icmp_ge (tgt := 144) hx hb (by decide +kernel : decode cX6_init 122 = .ok (.if_icmp .ge 22, 3)) (by decide) (fun _ => ?_) (fun h => absurd (by decide) h)
  have h6 : ∀ c ∈ ks11, c.1 ≠ 6 ∧ c.1 ≠ 34 ∧ c.1 ≠ 35 := by decide +kernel
  obtain ⟨ad, had⟩ : ∃ ad : Nat → Nat → Nat, ad = fun t i => if t = 6 then h0 else if t = 34 then qs else if t = 35 then qv else ad11 t i := ⟨_, rfl⟩
  have g1 : ad 6 0 = h0 := by rw [had]; rfl
  have g2 : ad 34 0 = qs := by rw [had]; rfl
  have g3 : ad 35 0 = qv := by rw [had]; rfl
  have gg : ∀ t i : Nat, t ≠ 6 → t ≠ 34 → t ≠ 35 → ad11 t i = ad t i := fun t i a b c => by rw [had]; show _ = if t = 6 then h0 else if t = 34 then qs else if t = 35 then qv else ad11 t i; rw [if_neg a, if_neg b, if_neg c]
  have gk : ∀ c ∈ ks11, ad11 c.1 c.2 = ad c.1 c.2 := fun c hc => gg _ _ (h6 c hc).1 (h6 c hc).2.1 (h6 c hc).2.2
  have u_5_0 : ad 5 0 = s0 := (gg _ _ (by decide) (by decide) (by decide)).symm.trans f_5_0
  have u_5_1 : ad 5 1 = s1 := (gg _ _ (by decide) (by decide) (by decide)).symm.trans f_5_1
  have u_0_0 : ad 0 0 = hh := (gg _ _ (by decide) (by decide) (by decide)).symm.trans f_0_0
  have u_2_0 : ad 2 0 = hp := (gg _ _ (by decide) (by decide) (by decide)).symm.trans f_2_0
  have u_1_0 : ad 1 0 = n0 := (gg _ _ (by decide) (by decide) (by decide)).symm.trans f_1_0
  have u_3_0 : ad 3 0 = hq := (gg _ _ (by decide) (by decide) (by decide)).symm.trans f_3_0
  have u_1_1 : ad 1 1 = n1 := (gg _ _ (by decide) (by decide) (by decide)).symm.trans f_1_1
  have u_4_0 : ad 4 0 = z0 := (gg _ _ (by decide) (by decide) (by decide)).symm.trans f_4_0
  have u_4_1 : ad 4 1 = z1 := (gg _ _ (by decide) (by decide) (by decide)).symm.trans f_4_1
  have u_5_8 : ad 5 8 = s8 := (gg _ _ (by decide) (by decide) (by decide)).symm.trans f_5_8
  have u_5_9 : ad 5 9 = s9 := (gg _ _ (by decide) (by decide) (by decide)).symm.trans f_5_9
  have hP1 : va_P D classes (kyW cy ad ks11) H := ky_P gk hc11 (ky_r hP)
  have hP2 := ky_repl (k := 1) (e' := .inl (cy 3, 2, .inr (.inr (.inr (.inr (fun j => some (ad 5 (8 + j)))))))) (ky_l hP) rfl (fun hx => by
    have hx : H[qs]? = some (vp_cell _ _) := hx
    exact hx.trans (congrArg some (ky_arr (fun j hj => by
      rcases (show j = 0 ∨ j = 1 by omega) with rfl | rfl
      · rw [u_5_8]; rfl
      · rw [u_5_9]; rfl))))
  have hP3 : va_P D classes (kyW cy ad [(6, 0), (34, 0), (35, 0)]) H := by
    have e : kyW cy ad [(6, 0), (34, 0), (35, 0)] = [(ad 6 0, .inr (6, [.ref (ad 5 0), .ref (ad 5 1), .ref (ad 0 0), .ref (ad 34 0), .ref (ad 35 0), .ref (ad 2 0), .ref (ad 1 0), .ref (ad 3 0), .int 0, .int 0, .ref (ad 1 1), .ref (ad 4 0), .ref (ad 4 1), .int 0, .int 0, .int 0])), (ad 34 0, .inl (cy 3, 2, .inr (.inr (.inr (.inr (fun j => some (ad 5 (8 + j)))))))), (ad 35 0, .inl (cy 2, 2, .inl (fun _ => 0)))] := rfl
    rw [e, g1, g2, g3, u_5_0, u_5_1, u_0_0, u_2_0, u_1_0, u_3_0, u_1_1, u_4_0, u_4_1]
    exact hP2
  have hD3 : va_D A (kyW cy ad kkX6) := by
    refine ky_D hD ?_
    rw [kkX6, ky_app, List.map_append, List.map_append, ky_fst gk]
    show [ad 6 0, ad 34 0, ad 35 0] ++ _ = [h0, qs, qv] ++ _
    rw [g1, g2, g3]
  have hP4 : va_P D classes (kyW cy ad kkX6) H := by
    rw [kkX6, ky_app]
    exact hP3.app hP1
  exact W.vret hx hb hr (fun t ht hW => ⟨⟨(), rfl, trivial, ad, g1, by rw [ht]; exact hP4, hD3⟩, hS.F ht⟩) hS.2.2 (by decide +kernel : decode cX6_init 144 = .ok (.return_, 1))
