/-! the law behind its two constructors -/
section
variable {p : Program} {l : Launch} {e : Env} {R : Room} {s : State} {m : MethodId} {args : Array Value} {below : List Frame} {meth : Method} {c : Code} {cells slots : Nat} {Q : State → Prop} {D : va_G} {cy : Nat → ClassId} {ad : Nat → Nat → Nat} {A : Nat → Prop}
/-- from pc 16 on: with the script at the cell of its kind and both sides' objects all 0, the law answers true -/
theorem law_tail (hx : p.tables.exec = Jvm.exec) (hb : c.code = cL_law) (hml : c.maxLocals = 4) (hown : s.vm.findClass RL = some m.cls) (hts : ∀ w ∈ lw_g, w.before args s = true) (hK : va_K D classes (tysL cy) s) (hDA : ∀ σ, va_D A (pool cy ad σ)) (hDD : va_D (fun _ => True) (pool cy ad (fun _ _ _ => 0))) (hNw : ∀ w ∈ nw, va_Nw w s) (hA : ∀ q, As ad q → A q) (hcs : cells ≤ R.cells) (hss : slots ≤ R.slots) (hf : 39 ≤ R.frames) (hlc : 1600 ≤ R.locals) (n : Nat) (sc : Int → Int) (hn : n < 2 ^ 31) (hsc : ∀ j, inR (sc j)) (hX : va_X (ad 56 0) n (fun j => Int32.ofInt (sc (j : Int))) s s.heap) (hbl : ad 56 0 < s.heap.size) (hbA : ¬ A (ad 56 0)) (hret : ∀ pc H locs ls σ, decode cL_law pc = .ok (.ireturn, 1) → Ok D cy ad A s.heap H locs σ → W p l e R s m args below meth c H locs cells slots Q (F0 m pc ls [.int 1])) {H : Heap} {locs : List Loc} {ls : Array Slot} (hO : Ok D cy ad A s.heap H locs (fun _ _ _ => 0)) (hr : rel ad [some (.inr (.inl (56, 0))), some (.inr (.inl (6, 0))), some (.inr (.inl (7, 0))), none] 4 ls) : W p l e R s m args below meth c H locs cells slots Q (F0 m 16 ls []) := by
  have X : Cx p l e R s m args below meth c cells slots Q D cy ad A cL_law 4 RL (lawM n sc) (Kr (some .boolean) lawK) := by
    refine ⟨⟨hx, hb, hown, hts, hK, hDA⟩, fun k t j z h => (by cases h), fun k x h => ⟨(cstL_ok.1 k x h).1, hts _ (cstL_ok.1 k x h).2⟩, fun k x h => hts _ (cstL_ok.2 k x h), fun k n' ci T' h => ?_, fun _ => ⟨hX, hbl, hbA, hn, hsc⟩, fun x pc H locs ls σ' hdg hO hxr hk => ?_, fun pc H locs ls σ' hdg hO hk => ?_⟩
    · obtain ⟨nn, hnn, y', bytes, maxL', ret', hct, hs⟩ := cao_L_law l k n' ci T' h
      have hRR : nn + 1 ≤ R.frames ∧ 40 * nn + 40 ≤ R.locals := ⟨by omega, by omega⟩
      rcases hs with ⟨n2, rfl, hmf, hlk⟩ | ⟨hci, hsf, hlk⟩
      · refine ⟨fun _ => ?_, fun hci => ?_⟩
        · exact cr_V hx hb hml hown hts hK hDD hNw hA hcs hss hct hmf hlk hRR
        · obtain ⟨-, ⟨q, hq, -⟩, -⟩ := hmf
          have := (cls_ok _ _ hq).2.1
          omega
      · refine ⟨fun h8 => by omega, fun _ => ?_⟩
        exact cr_S hx hb hml hown hts hK hDD hNw hA hcs hss hct hsf hlk hRR
    · obtain ⟨-, hk⟩ := hk
      have e1 : x = 1 := Option.some.inj hk
      rw [e1]
      exact hret pc H locs ls σ' hdg hO
    · obtain ⟨h9, -⟩ := hk
      cases h9
  refine floyd X hCL_law lCL_law (law_step n sc hn hsc) 16 _ [] _ (law_head n sc REL_0) H locs ls hO hr (fun i v hv => ?_) (fun v hv => by cases hv)
  match i, hv with
  | 0, hv => cases hv; exact Or.inr rfl
  | 1, hv => cases hv; exact Or.inl (by decide)
  | 2, hv => cases hv; exact Or.inl (by decide)
  | 3, hv => cases hv
  | i + 4, hv => cases hv
end
