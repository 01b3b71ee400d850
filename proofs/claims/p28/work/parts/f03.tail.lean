/-! the law behind its constructor -/
section
variable {p : Program} {l : Launch} {e : Env} {R : Room} {s : State} {m : MethodId} {args : Array Value} {below : List Frame} {meth : Method} {c : Code} {cells slots : Nat} {Q : State → Prop} {D : va_G} {cy : Nat → ClassId} {ad : Nat → Nat → Nat} {A : Nat → Prop}
set_option maxRecDepth 100000 in
theorem law_tail (hx : p.tables.exec = Jvm.exec) (hb : c.code = cL_law) (hml : c.maxLocals = 11) (hown : s.vm.findClass RL = some m.cls) (hts : ∀ w ∈ lw_g, w.before args s = true) (hK : va_K D classes (tysL cy) s) (hDA : ∀ σ, va_D A (pool false cy ad σ)) (hDD : va_D (fun _ => True) (pool false cy ad (fun _ _ _ => 0))) (hNw : ∀ w ∈ nw, va_Nw w s) (hA : ∀ q, As false ad q → A q) (hA2 : ∀ q, s.heap.size ≤ q → A q) (hcs : cells + 2 ≤ R.cells) (hss : slots + 32 ≤ R.slots) (hf : 41 ≤ R.frames) (hlc : 1700 ≤ R.locals) (n : Nat) (xs : Nat → Int32) (hn : n < 2 ^ 31) (hX : va_X (ad 56 0) n xs s s.heap) (hbl : ad 56 0 < s.heap.size) (hbA : ¬ A (ad 56 0))
    (hret : ∀ c' s', c' ≤ cells + 2 → s' ≤ slots + 32 → ∀ pc H locs ls σ, decode cL_law pc = .ok (.ireturn, 1) → Ok false D cy ad A s.heap H locs σ → W p l e R s m args below meth c H locs c' s' Q (F0 m pc ls [.int (Int32.ofInt 1)])) {H : Heap} {locs : List Loc} {ls : Array Slot} (hO : Ok false D cy ad A s.heap H locs (fun _ _ _ => 0)) (hr : rel ad [some (.inr (.inl (56, 0))), some (.inr (.inl (6, 0))), none, none, none, none, none, none, none, none, none] 11 ls) : W p l e R s m args below meth c H locs cells slots Q (F0 m 8 ls []) := by
  have X : ∀ c' s', c' ≤ cells + 2 → s' ≤ slots + 32 → Cx false p l e R s m args below meth c c' s' Q D cy ad A cL_law 11 RL (frL, kcL, klL, ca_L_law, false, 0, fun _ => 0) (Kr (some .boolean) lawK) := by
    intro c' s' h1 h2
    have h3 : c' ≤ R.cells := Nat.le_trans h1 hcs
    have h4 : s' ≤ R.slots := Nat.le_trans h2 hss
    refine ⟨⟨hx, hb, hown, hts, hK, hDA⟩, fun k t j z h => (by cases h), fun k x h => ⟨(cstL_ok.1 k x h).1, hts _ (cstL_ok.1 k x h).2⟩, fun k x h => hts _ (cstL_ok.2 k x h), fun k n' ci T' h => ?_, fun h => (by cases h), fun x pc H locs ls σ' hdg hO hxr hk => ?_, fun pc H locs ls σ' hdg hO hk => ?_⟩
    · rcases cao_L_law l k n' ci T' h with ⟨rfl, rfl, rfl, rfl⟩ | ⟨nn, hnn, y', bytes, maxL', ret', hct, hs⟩
      · exact ⟨fun h8 => by omega, fun _ => cr_cell hx hb hml hown hts h3 h4 ⟨by omega, by omega⟩ hn hX hbl hbA⟩
      · have hRR : nn + 1 ≤ R.frames ∧ 40 * nn + 40 ≤ R.locals := ⟨by omega, by omega⟩
        rcases hs with ⟨n2, rfl, hmf, hlk⟩ | ⟨hci, hsf, hlk⟩
        · refine ⟨fun _ => ?_, fun hci => ?_⟩
          · exact cr_V hx hb hml hown hts hK hDD hNw hA h3 h4 hct hmf hlk hRR
          · obtain ⟨-, ⟨q, hq, -⟩, -⟩ := hmf
            have := (cls_ok _ _ hq).2.1
            omega
        · refine ⟨fun h8 => by omega, fun _ => ?_⟩
          exact cr_S hx hb hml hown hts hK hDD hNw hA h3 h4 hct hsf hlk hRR
    · obtain ⟨-, hk⟩ := hk
      have e1 : x = 1 := Option.some.inj hk
      rw [e1]
      exact hret c' s' h1 h2 pc H locs ls σ' hdg hO
    · obtain ⟨h9, -⟩ := hk
      cases h9
  have ok6 : okS false [.inr (.inl (6, 0))] := fun v hv => by
    cases hv with
    | head => exact Or.inl (by decide)
    | tail _ h => cases h
  have ok1 : okS false [.inl 1] := fun v hv => by
    cases hv with
    | head => exact (⟨by decide, by decide⟩ : inR 1)
    | tail _ h => cases h
  -- behind told
  have pC : ∀ (at0 : Int) (l3 l4 l5 l6 l7 l8 l9 l10 : Option AV) (g : Gh) (σ : Mem), GS g σ → (0 ≤ at0 ∧ at0 < 1000) → g.1 5 0 < 4 → Gd false p l e R s m args below meth c (cells + 1 + 1) (slots + 16 + 16) Q D cy ad A 11 297 [some (.inr (.inl (56, 0))), some (.inr (.inl (6, 0))), some (.inl at0), l3, l4, l5, l6, l7, l8, l9, l10] [.inl 1] σ := by
    intro at0 l3 l4 l5 l6 l7 l8 l9 l10 g σ hg ha h5
    obtain ⟨cut, f, c1, c2⟩ := law_C (l3 := l3) (l4 := l4) (l5 := l5) (l6 := l6) (l7 := l7) (l8 := l8) (l9 := l9) (l10 := l10) hg ha h5
    exact floyd (X _ _ (Nat.le_refl _) (Nat.le_refl _)) hCL_law lCL_law c1 297 _ _ _ c2
  -- behind best
  have pB : ∀ (at0 : Int) (l3 l4 l5 l6 l7 l8 l9 l10 : Option AV) (g : Gh) (σ : Mem), GS g σ → (0 ≤ at0 ∧ at0 < 800) → pos g.1 → (g.1 5 0 < 4 ∧ HO g.1) → Gd false p l e R s m args below meth c (cells + 1) (slots + 16) Q D cy ad A 11 260 [some (.inr (.inl (56, 0))), some (.inr (.inl (6, 0))), some (.inl at0), l3, l4, l5, l6, l7, l8, l9, l10] [.inl 1] σ := by
    intro at0 l3 l4 l5 l6 l7 l8 l9 l10 g σ hg ha hp h5
    obtain ⟨cut, f, c1, c2⟩ := law_B (l3 := l3) (l4 := l4) (l5 := l5) (l6 := l6) (l7 := l7) (l8 := l8) (l9 := l9) (l10 := l10) hg ha hp h5
    refine floydG (X _ _ (by omega) (by omega)) hCL_law lCL_law (fun pc I L S σ' k hc hi => (c1 pc I L S σ' k hc hi).imp id (fun hT => ?_)) 260 _ _ _ c2
    obtain ⟨rfl, at0, l3, l4, l5, l6, l7, l8, l9, l10, rfl, rfl, ha, g, hg, h5, hh⟩ := hT
    intro H locs ls hO hrel hokL _
    refine cr_N (as := [.inr (.inl (6, 0))]) (rest := []) (K' := fun r σ' => r = some 1 ∧ ∃ g', GS g' σ' ∧ g'.1 = g.1) hx hb hml hown hts hK hDD hNw hA hA2 (by omega) (by omega) (k_L_told l) FL_told rfl KRL_53 ⟨by omega, by omega⟩ (by decide +kernel : decode cL_law 294 = .ok (.invokestatic 53, 3)) hO hrel.2.2.1 rfl ok6 ?_ (Nat.zero_le _) (fun r σ2 H' locs' hO' _ hk => ?_)
    · exact ⟨g, hg, hh, fun g' σ2 h2 e => ⟨rfl, g', h2, e⟩⟩
    · obtain ⟨rfl, g', hg', e⟩ := hk
      exact pC at0 l3 l4 l5 l6 l7 l8 l9 l10 g' σ2 hg' (by omega) (by rw [e]; exact h5) H' locs' ls hO' hrel hokL ok1
  obtain ⟨cut, f, c1, c2⟩ := law_A GS_0
  refine floydG (X _ _ (by omega) (by omega)) hCL_law lCL_law (fun pc I L S σ' k hc hi => (c1 pc I L S σ' k hc hi).imp id (fun hT => ?_)) 8 _ [] _ c2 H locs ls hO hr (fun i v hv => ?_) (fun v hv => by cases hv)
  · obtain ⟨rfl, at0, l3, l4, l5, l6, l7, l8, l9, l10, rfl, rfl, ha, g, hg, h5, hh⟩ := hT
    intro H locs ls hO hrel hokL _
    refine cr_N (as := [.inr (.inl (6, 0))]) (rest := []) (K' := fun r σ' => r = some 1 ∧ ∃ g', GS g' σ' ∧ pos g'.1 ∧ g'.1 5 0 < 4 ∧ HO g'.1) hx hb hml hown hts hK hDD hNw hA hA2 (by omega) (by omega) (k_L_best l) FL_best rfl KRL_44 ⟨by omega, by omega⟩ (by decide +kernel : decode cL_law 257 = .ok (.invokestatic 44, 3)) hO hrel.2.2.1 rfl ok6 ?_ (Nat.zero_le _) (fun r σ2 H' locs' hO' _ hk => ?_)
    · refine ⟨g, hg, fun σ2 hB h2 => ⟨rfl, _, h2, (bst_len (GS_w hg) hB).2.2.2.1, ?_, HO_e (fun m a b => (cn13 a b).trans (by rw [orV_o g.1 _ (by omega)])) hh⟩⟩
      exact Int.lt_of_le_of_lt (Int.le_of_eq ((cn5 _).trans (by rw [orV_o g.1 _ (by omega)]))) h5
    · obtain ⟨rfl, g', hg', hp, h5', hh'⟩ := hk
      exact pB at0 l3 l4 l5 l6 l7 l8 l9 l10 g' σ2 hg' (by omega) hp ⟨h5', hh'⟩ H' locs' ls hO' hrel hokL ok1
  · match i, hv with
    | 0, hv => cases hv; exact Or.inr rfl
    | 1, hv => cases hv; exact Or.inl (by decide)
    | 2, hv => cases hv
    | 3, hv => cases hv
    | 4, hv => cases hv
    | 5, hv => cases hv
    | 6, hv => cases hv
    | 7, hv => cases hv
    | 8, hv => cases hv
    | 9, hv => cases hv
    | 10, hv => cases hv
    | i + 11, hv => cases hv
end
