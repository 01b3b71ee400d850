/-! the rule of a method that makes a row of its own -/
def rmN (d : Nat) : Room := { frames := d, cells := 1, slots := 16, locals := 40 * d }
def AsN (N : Nat) (ad : Nat → Nat → Nat) : Nat → Prop := fun q => As false ad q ∨ N ≤ q
def CtN (l : Launch) (y : MethodName) (cc : ByteArray) (maxL : Nat) (ret : Option FieldType) (n : Nat) (T : Tr) : Prop := ∀ (N : Nat) (D : va_G) (cy : Nat → ClassId) (ad : Nat → Nat → Nat) (d : Nat), n ≤ d → ∀ (a : List AV) (σ : Mem) (K : Option Int → Mem → Prop), okS false a → T a σ K → Met l y (wz y cc maxL ret) (rmN d) (va_Pc (a.map (vV ad)) (fun U => U.heap.size = N ∧ Wd false D cy ad σ U)) (Qz false D cy ad K) 1 16 (AsN N ad)
def ad57 (ad : Nat → Nat → Nat) (q : Nat) : Nat → Nat → Nat := fun t i => if t = 57 then q else ad t i
def zr (σ : Mem) : Mem := fun t i j => if t = 57 then 0 else σ t i j
theorem vV_57 {ad : Nat → Nat → Nat} {q : Nat} {v : AV} (h : okV false v) : vV (ad57 ad q) v = vV ad v := by
  rcases v with x | c | x
  · rfl
  · have z : c.1 ≠ 57 := by
      rcases h with z | z
      · exact (cnt_ft z).2
      · rw [z]
        decide
    show Value.ref (ad57 ad q c.1 c.2) = Value.ref (ad c.1 c.2)
    unfold ad57
    rw [if_neg z]
  · rfl
theorem okV_ft {v : AV} (h : okV false v) : okV true v := by
  rcases v with x | c | x
  · exact h
  · exact h.elim (fun z => Or.inl (cnt_ft z).1) Or.inr
  · trivial
set_option maxHeartbeats 4000000 in
theorem mk_N {l : Launch} {y : MethodName} {cc : ByteArray} {maxL : Nat} {ret : Option FieldType} {n : Nat} {T : Tr} (hy : plainName y.cls = true) {C : CL} (hC : ∀ q ∈ C, chk cc q) (hl : lnk C = true) {fr : Nat → Option (Nat × Nat × Int)} {kc : Nat → Option Int} {kl : Nat → Option Int64} (hF : FldOK y.cls fr) (hCst : CstOK y.cls kc kl) {ca ca2 : Nat → Option (Nat × Nat × Tr)} (hca : ∀ k n' ci T', ca k = some (n', ci, T') → ∃ nn, nn + 1 ≤ n ∧ Site l y.cls k n' ci nn T')
    (hca2 : ∀ k n' ci T', ca2 k = some (n', ci, T') → ∃ nn T0, nn + 1 ≤ n ∧ Site l y.cls k n' ci nn T0 ∧ ∀ a σ K, T' a σ K → M2 T0 a σ K) (hW : Cond.arrayClass .int ∈ lw_g) {pN : Nat} (hpN : decode cc pN = .ok (.newarray .int, 2))
    (hlen : ∀ a σ K, T a σ K → (eL a).length ≤ maxL)
    (body : ∀ a σ K, okS false a → (∀ t i j, inR (σ t i j)) → T a σ K → ∃ (cut : Cut) (f : Nat), (∀ pc I L S σ' k, cut pc = some I → I L S σ' k → wp (fr, kc, kl, ca, false, 0, fun _ => 0) C cut (fun k' => k' < k) (fun _ _ => False) f (drp pc C) L S σ' ∨ (pc = pN ∧ S = [.inl 16] ∧ ∃ (cut2 : Cut) (f2 : Nat), (∀ pc I L S σ' k, cut2 pc = some I → I L S σ' k → wp (fr, kc, kl, ca2, false, 0, fun _ => 0) C cut2 (fun k' => k' < k) (Kr ret K) f2 (drp pc C) L S σ') ∧ wp (fr, kc, kl, ca2, false, 0, fun _ => 0) C cut2 (fun _ => True) (Kr ret K) f2 (drp (pN + 2) C) L [.inr (.inl (57, 0))] (zr σ'))) ∧ wp (fr, kc, kl, ca, false, 0, fun _ => 0) C cut (fun _ => True) (fun _ _ => False) f (drp 0 C) (entL a maxL) [] σ) : CtN l y cc maxL ret n T := by
  intro N D cy ad d hd a σ K ha hT
  refine Met.ofW (cc := cc) (maxL := maxL) (ret := ret) hy rfl ?_
  intro p e s m args below meth c s₁ B hml hv
  obtain ⟨rfl, hN, hP, hK, hD0, hR, hNw⟩ := hv
  have hx := B.exec
  have hb := B.bytes
  have hr := B.returns
  have hts0 := atoms_spec (ws := wz y cc maxL ret) B.pre
  have hts : ∀ w ∈ lw_g, w.before (a.map (vV ad)).toArray s = true := fun w hw => hts0 w (List.mem_cons_of_mem _ hw)
  have hown : s.vm.findClass y.cls = some m.cls := findClass_of_methodNamed B.named
  have hlocks := B.notSynchronized
  obtain ⟨cut, f, h1, h2⟩ := body a σ K ha hR hT
  rw [lg_entry_eq]
  have hA : ∀ q, s.heap.size ≤ q → AsN N ad q := fun q h => Or.inr (by rw [← hN]; exact h)
  have hD1 : ∀ σ', va_D (AsN N ad) (pool false cy ad σ') := fun σ' => (pool_As hD0 σ').weaken (fun _ _ _ h => Or.inl h)
  have X1 : Cx false p l e (headSpec (wz y cc maxL ret) (rmN d)).room s m (a.map (vV ad)).toArray below meth c 0 0 (MQ below (Qz false D cy ad K) (a.map (vV ad)).toArray s 1 16 (AsN N ad)) D cy ad (AsN N ad) cc maxL y.cls (fr, kc, kl, ca, false, 0, fun _ => 0) (fun _ _ => False) := by
    refine ⟨⟨hx, hb, hown, hts, hK, hD1⟩, fun k t j z h => ?_, fun k x h => ⟨(hCst.1 k x h).1, hts _ (hCst.1 k x h).2⟩, fun k x h => hts _ (hCst.2 k x h), fun k n' ci T' h => ?_, fun h => (by cases h), fun x pc H locs ls σ' hdg hO hxr hk => hk.elim, fun pc H locs ls σ' hdg hO hk => hk.elim⟩
    · obtain ⟨q, e1, e2, e3, e4⟩ := hF k t j z h
      exact ⟨q, e1, e2, e3, hts _ e4⟩
    · obtain ⟨nn, hnn, y', bytes, maxL', ret', hct, hs⟩ := hca k n' ci T' h
      have hRR : nn + 1 ≤ (rmN d).frames ∧ 40 * nn + 40 ≤ (rmN d).locals := ⟨by show nn + 1 ≤ d; omega, by show 40 * nn + 40 ≤ 40 * d; omega⟩
      rcases hs with ⟨n2, rfl, hmf, hlk⟩ | ⟨hci, hsf, hlk⟩
      · refine ⟨fun _ => ?_, fun hci => ?_⟩
        · exact cr_V hx hb hml hown hts hK (pool_D hD0 _) hNw (fun _ q => Or.inl q) (Nat.zero_le _) (Nat.zero_le _) hct hmf hlk hRR
        · obtain ⟨-, ⟨q, hq, -⟩, -⟩ := hmf
          have := (cls_ok _ _ hq).2.1
          omega
      · refine ⟨fun h8 => by omega, fun _ => ?_⟩
        exact cr_S hx hb hml hown hts hK (pool_D hD0 _) hNw (fun _ q => Or.inl q) (Nat.zero_le _) (Nat.zero_le _) hct hsf hlk hRR
  refine floydG X1 hC hl (fun pc I L S σ' k hc hi => ?_) 0 _ [] σ h2 s.heap [] _ ⟨hP, va_S.rf, hR⟩ (rel_entry ad a (hlen a σ K hT)) (okL_entry ha maxL) (fun v hv => by cases hv)
  rcases h1 pc I L S σ' k hc hi with h | ⟨rfl, rfl, cut2, f2, h3, h4⟩
  · exact Or.inl h
  refine Or.inr (fun H locs ls hO hrel hokL _ => ?_)
  refine va_newa (atype := .int) (n := Int32.ofInt 16) (rest := []) (a0 := (16, .inl (fun _ => 0))) (N' := 16) (ty := .int) hx hb (hts _ hW) rfl hK hO.1 (hD1 σ') hO.2.1 hA (fun _ => rfl) (by decide) (by decide) (by decide) (Nat.le_refl 1) (Nat.le_refl 16) hpN (fun q cA H1 hK1 hP1 hD1' hS1 => ?_)
  have ec : cA = cy 0 := ky_un hK hK1 0 5 rfl rfl
  subst ec
  have oa : ∀ t i, t ≠ 57 → ad57 ad q t i = ad t i := fun t i z => by
    unfold ad57
    rw [if_neg z]
  have os : ∀ t i j, t ≠ 57 → zr σ' t i j = σ' t i j := fun t i j z => by
    unfold zr
    rw [if_neg z]
  have e57 : ad57 ad q 57 0 = q := by
    unfold ad57
    rw [if_pos rfl]
  have ez : (fun j : Nat => Int32.ofInt (zr σ' 57 0 (j : Int))) = fun _ => 0 := funext fun j => by
    unfold zr
    rw [if_pos rfl]
    rfl
  have ep : pool true cy (ad57 ad q) (zr σ') = pool false cy ad σ' ++ [(q, .inl (cy 0, 16, .inl (fun _ => 0)))] := by
    rw [pool_true, pool_cg oa os, e57, ez]
  have hP2 : va_P D classes (pool true cy (ad57 ad q) (zr σ')) H1 := by
    rw [ep]
    exact hP1
  have hD2 : va_D (AsN N ad) (pool true cy (ad57 ad q) (zr σ')) := by
    rw [ep]
    exact hD1'
  have hDT : va_D (fun _ => True) (pool true cy (ad57 ad q) (zr σ')) := hD2.weaken (fun _ _ _ _ => trivial)
  have hA2 : ∀ x, As true (ad57 ad q) x → AsN N ad x := by
    rintro x ⟨t, i, a1, rfl⟩
    obtain ⟨k1, c1, p1⟩ := pool_at (xx := true) cy (ad57 ad q) (zr σ') a1
    exact hD2.2 k1 _ p1
  have X2 : Cx true p l e (headSpec (wz y cc maxL ret) (rmN d)).room s m (a.map (vV ad)).toArray below meth c 1 16 (MQ below (Qz false D cy ad K) (a.map (vV ad)).toArray s 1 16 (AsN N ad)) D cy (ad57 ad q) (AsN N ad) cc maxL y.cls (fr, kc, kl, ca2, false, 0, fun _ => 0) (Kr ret K) := by
    have hend : ∀ (r : Option Int) (σ2 : Mem) (H : Heap) (locs : List Loc), Ok true D cy (ad57 ad q) (AsN N ad) s.heap H locs σ2 → (∀ x, r = some x → inR x) → K r σ2 → ∀ t : State, t.heap = H → s.WarmedH t.vm → Qz false D cy ad K (a.map (vV ad)).toArray s (.returned (r.map (fun x => Value.int (Int32.ofInt x)))) t := by
      intro r σ2 H locs hO2 hri hk t ht hW
      have hP3 := (Ok_f hO2).1
      rw [pool_cg (ad := ad) (σ := σ2) oa (fun _ _ _ _ => rfl)] at hP3
      have hS := hO2.2.1
      exact ⟨⟨r, σ2, rfl, hri, hk, by rw [ht]; exact hP3, va_K.moved hW.alike hK, pool_D hD0 σ2, hO2.2.2, nw_warm hW hNw⟩, by rw [ht]; exact hS.1, fun x x1 x2 => by rw [ht]; exact hS.2.1 x x1 (fun z => z.elim x2 (fun z => by omega))⟩
    refine ⟨⟨hx, hb, hown, hts, hK, fun σ2 => (pool_As hDT σ2).weaken (fun _ _ _ h => hA2 _ h)⟩, fun k t j z h => ?_, fun k x h => ⟨(hCst.1 k x h).1, hts _ (hCst.1 k x h).2⟩, fun k x h => hts _ (hCst.2 k x h), fun k n' ci T' h => ?_, fun h => (by cases h), fun x pc H locs ls σ' hdg hO hxr hk => ?_, fun pc H locs ls σ' hdg hO hk => ?_⟩
    · obtain ⟨q, e1, e2, e3, e4⟩ := hF k t j z h
      exact ⟨q, e1, e2, e3, hts _ e4⟩
    · obtain ⟨nn, T0, hnn, ⟨y', bytes, maxL', ret', hct, hs⟩, hT2⟩ := hca2 k n' ci T' h
      have hRR : nn + 1 ≤ (rmN d).frames ∧ 40 * nn + 40 ≤ (rmN d).locals := ⟨by show nn + 1 ≤ d; omega, by show 40 * nn + 40 ≤ 40 * d; omega⟩
      rcases hs with ⟨n2, rfl, hmf, hlk⟩ | ⟨hci, hsf, hlk⟩
      · refine ⟨fun _ => ?_, fun hci => ?_⟩
        · exact cr_V2 hx hb hml hown hts hK (pool_D hDT _) hNw hA2 (Nat.le_refl 1) (Nat.le_refl 16) hct hmf hlk hRR hT2
        · obtain ⟨-, ⟨q, hq, -⟩, -⟩ := hmf
          have := (cls_ok _ _ hq).2.1
          omega
      · refine ⟨fun h8 => by omega, fun _ => ?_⟩
        exact cr_S2 hx hb hml hown hts hK (pool_D hDT _) hNw hA2 (Nat.le_refl 1) (Nat.le_refl 16) hct hsf hlk hRR hT2
    · obtain ⟨hty, hk⟩ := hk
      have hq := hend (some x) σ' H locs hO (fun z hz => by cases hz; exact hxr) hk
      rcases hty with rfl | ⟨rfl, rfl | rfl⟩
      · exact W.zret (ty := .int) hx hb hr rfl hq hO.2.1.2.2 hdg
      · exact W.zret (ty := .boolean) hx hb hr rfl hq hO.2.1.2.2 hdg
      · exact W.zret (ty := .boolean) hx hb hr rfl hq hO.2.1.2.2 hdg
    · obtain ⟨rfl, hk⟩ := hk
      exact W.vret hx hb hr (hend none σ' H locs hO (fun z hz => by cases hz) hk) hO.2.1.2.2 hdg
  have go := floyd X2 hC hl h3 (pc + 2) L [.inr (.inl (57, 0))] (zr σ') h4 H1 locs ls ⟨hP2, hS1, fun t i j => by
    unfold zr
    split
    · exact inR0
    · exact hO.2.2 _ _ _⟩ ⟨hrel.1, hrel.2.1, hrel.2.2.1, fun i v hv => by rw [vV_57 (hokL i v hv)]; exact hrel.2.2.2 i v hv⟩ (fun i v hv => okV_ft (hokL i v hv)) (fun v hv => by
      cases hv with
      | head => exact Or.inl (by decide)
      | tail _ h => cases h)
  have ev : ([Sum.inr (Sum.inl (57, 0))] : List AV).map (vV (ad57 ad q)) = [.ref q] := by
    show [Value.ref (ad57 ad q 57 0)] = _
    rw [e57]
  rw [ev] at go
  exact go
