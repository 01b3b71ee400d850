set_option maxHeartbeats 2000000 in
/-- THE RULE: a method keeps to its contract, when its instructions do, over abstract values -/
theorem mk_met {l : Launch} {y : MethodName} {cc : ByteArray} {maxL : Nat} {ret : Option FieldType} {n : Nat} {T : Tr} (hy : plainName y.cls = true) {C : CL} (hC : ∀ q ∈ C, chk cc q) (hl : lnk C = true) {fr : Nat → Option (Nat × Nat × Int)} {kc : Nat → Option Int} {kl : Nat → Option Int64} (hF : FldOK y.cls fr) (hCst : CstOK y.cls kc kl) {ca : Nat → Option (Nat × Nat × Tr)} (hca : ∀ k n' ci T', ca k = some (n', ci, T') → ∃ nn, nn + 1 ≤ n ∧ Site l y.cls k n' ci nn T')
    (hlen : ∀ a σ K, T a σ K → (eL a).length ≤ maxL)
    (body : ∀ a σ K, (∃ xx : Bool, okS xx a) → (∀ t i j, inR (σ t i j)) → T a σ K → ∃ (cut : Cut) (f : Nat), (∀ pc I L S σ' k, cut pc = some I → I L S σ' k → wp (fr, kc, kl, ca, false, 0, fun _ => 0) C cut (fun k' => k' < k) (Kr ret K) f (drp pc C) L S σ') ∧ wp (fr, kc, kl, ca, false, 0, fun _ => 0) C cut (fun _ => True) (Kr ret K) f (drp 0 C) (entL a maxL) [] σ) : Ct l y cc maxL ret n T := by
  intro xx D cy ad d hd a σ K ha hT
  refine Met.ofW (cc := cc) (maxL := maxL) (ret := ret) hy rfl ?_
  intro p e s m args below meth c s₁ B hml hv
  obtain ⟨rfl, hP, hK, hD0, hR, hNw⟩ := hv
  have hx := B.exec
  have hb := B.bytes
  have hr := B.returns
  have hts0 := atoms_spec (ws := wz y cc maxL ret) B.pre
  have hts : ∀ w ∈ lw_g, w.before (a.map (vV ad)).toArray s = true := fun w hw => hts0 w (List.mem_cons_of_mem _ hw)
  have hown : s.vm.findClass y.cls = some m.cls := findClass_of_methodNamed B.named
  have hlocks := B.notSynchronized
  obtain ⟨cut, f, h1, h2⟩ := body a σ K ⟨xx, ha⟩ hR hT
  rw [lg_entry_eq]
  have hend : ∀ (r : Option Int) (σ' : Mem) (H : Heap) (locs : List Loc), Ok xx D cy ad (As xx ad) s.heap H locs σ' → (∀ x, r = some x → inR x) → K r σ' → ∀ t : State, t.heap = H → s.WarmedH t.vm → Qz xx D cy ad K (a.map (vV ad)).toArray s (.returned (r.map (fun x => Value.int (Int32.ofInt x)))) t := by
    intro r σ' H locs hO hri hk t ht hW
    exact ⟨⟨r, σ', rfl, hri, hk, by rw [ht]; exact hO.1, va_K.moved hW.alike hK, pool_D hD0 σ', hO.2.2, nw_warm hW hNw⟩, hO.2.1.F ht⟩
  have X : Cx xx p l e (headSpec (wz y cc maxL ret) (rmD d)).room s m (a.map (vV ad)).toArray below meth c 0 0 (MQ below (Qz xx D cy ad K) (a.map (vV ad)).toArray s 0 0 (As xx ad)) D cy ad (As xx ad) cc maxL y.cls (fr, kc, kl, ca, false, 0, fun _ => 0) (Kr ret K) := by
    refine ⟨⟨hx, hb, hown, hts, hK, fun σ' => pool_As hD0 σ'⟩, fun k t j z h => ?_, fun k x h => ⟨(hCst.1 k x h).1, hts _ (hCst.1 k x h).2⟩, fun k x h => hts _ (hCst.2 k x h), fun k n' ci T' h => ?_, fun h => (by cases h), fun x pc H locs ls σ' hdg hO hxr hk => ?_, fun pc H locs ls σ' hdg hO hk => ?_⟩
    · obtain ⟨q, e1, e2, e3, e4⟩ := hF k t j z h
      exact ⟨q, e1, e2, e3, hts _ e4⟩
    · obtain ⟨nn, hnn, y', bytes, maxL', ret', hct, hs⟩ := hca k n' ci T' h
      have hRR : nn + 1 ≤ (rmD d).frames ∧ 40 * nn + 40 ≤ (rmD d).locals := ⟨by show nn + 1 ≤ d; omega, by show 40 * nn + 40 ≤ 40 * d; omega⟩
      rcases hs with ⟨n2, rfl, hmf, hlk⟩ | ⟨hci, hsf, hlk⟩
      · refine ⟨fun _ => ?_, fun hci => ?_⟩
        · exact cr_V hx hb hml hown hts hK (pool_D hD0 _) hNw (fun _ q => q) (Nat.zero_le _) (Nat.zero_le _) hct hmf hlk hRR
        · obtain ⟨-, ⟨q, hq, -⟩, -⟩ := hmf
          have := (cls_ok _ _ hq).2.1
          omega
      · refine ⟨fun h8 => by omega, fun _ => ?_⟩
        exact cr_S hx hb hml hown hts hK (pool_D hD0 _) hNw (fun _ q => q) (Nat.zero_le _) (Nat.zero_le _) hct hsf hlk hRR
    · obtain ⟨hty, hk⟩ := hk
      have hq := hend (some x) σ' H locs hO (fun z hz => by cases hz; exact hxr) hk
      rcases hty with rfl | ⟨rfl, rfl | rfl⟩
      · exact W.zret (ty := .int) hx hb hr rfl hq hO.2.1.2.2 hdg
      · exact W.zret (ty := .boolean) hx hb hr rfl hq hO.2.1.2.2 hdg
      · exact W.zret (ty := .boolean) hx hb hr rfl hq hO.2.1.2.2 hdg
    · obtain ⟨rfl, hk⟩ := hk
      exact W.vret hx hb hr (hend none σ' H locs hO (fun z hz => by cases hz) hk) hO.2.1.2.2 hdg
  exact floyd X hC hl h1 0 _ [] σ h2 s.heap [] _ ⟨hP, va_S.rf, hR⟩ (rel_entry ad a (hlen a σ K hT)) (okL_entry ha maxL) (fun v hv => by cases hv)
