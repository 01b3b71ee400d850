/-- a method's list of instructions, as the decoder says; each stands behind the one before it -/
abbrev chk (cc : ByteArray) (q : Nat × Instr × Nat × List Nat) : Prop := decode cc q.1 = .ok (q.2.1, q.2.2.1) ∧ (ilen q.2.1 = none ∨ ilen q.2.1 = some q.2.2.1) ∧ tgOK q.1 q.2.2.2 q.2.1 = true
def lnk : CL → Bool
  | q :: q2 :: r => q.1 + q.2.2.1 == q2.1 && lnk (q2 :: r)
  | _ => true
theorem lnk_tail {q : Nat × Instr × Nat × List Nat} {r : CL} (h : lnk (q :: r) = true) : lnk r = true := by
  cases r with
  | nil => rfl
  | cons q2 r =>
    simp only [lnk, Bool.and_eq_true] at h
    exact h.2
theorem lnk_next {q q2 : Nat × Instr × Nat × List Nat} {r : CL} (h : lnk (q :: q2 :: r) = true) : q2.1 = q.1 + q.2.2.1 := by
  simp only [lnk, Bool.and_eq_true, beq_iff_eq] at h
  exact h.1.symm
theorem drp_sub : ∀ {C : CL} {t : Nat} {q : Nat × Instr × Nat × List Nat}, q ∈ drp t C → q ∈ C
  | [], _, _, h => h
  | a :: r, t, q, h => by
    unfold drp at h
    split at h
    · exact h
    · exact List.mem_cons_of_mem _ (drp_sub h)
theorem drp_lnk : ∀ {C : CL} {t : Nat}, lnk C = true → lnk (drp t C) = true
  | [], _, h => h
  | a :: r, t, h => by
    unfold drp
    split
    · exact h
    · exact drp_lnk (lnk_tail h)
theorem drp_head : ∀ {C : CL} {t : Nat} {q : Nat × Instr × Nat × List Nat} {r : CL}, drp t C = q :: r → q.1 = t
  | [], _, _, _, h => by cases h
  | a :: r, t, q, r', h => by
    unfold drp at h
    split at h
    · rename_i hq
      cases h
      exact hq
    · exact drp_head h
section
variable {xx : Bool} {p : Program} {l : Launch} {e : Env} {R : Room} {s : State} {m : MethodId} {args : Array Value} {below : List Frame} {meth : Method} {c : Code} {cells slots : Nat} {Q : State → Prop} {D : va_G} {cy : Nat → ClassId} {ad : Nat → Nat → Nat} {A : Nat → Prop} {cc : ByteArray} {nL : Nat}
theorem wp_sound {own : String} {M : MI} {K : Option Int → Mem → Prop} (X : Cx xx p l e R s m args below meth c cells slots Q D cy ad A cc nL own M K) {C : CL} {cut : Cut} {bd : Nat → Prop} (hC : ∀ q ∈ C, chk cc q) (hl : lnk C = true)
    (hI : ∀ pc I L S σ k, cut pc = some I → bd k → I L S σ k → Gd xx p l e R s m args below meth c cells slots Q D cy ad A nL pc L S σ) :
    ∀ (n : Nat) (r : CL) (pc : Nat) (L : LL) (S : List AV) (σ : Mem), (∀ q ∈ r, q ∈ C) → lnk r = true → (∀ q r', r = q :: r' → q.1 = pc) → wp M C cut bd K n r L S σ → Gd xx p l e R s m args below meth c cells slots Q D cy ad A nL pc L S σ := by
  intro n
  induction n with
  | zero => intro r pc L S σ _ _ _ h; exact h.elim
  | succ n ih =>
    intro r pc L S σ hr hlr hpc h
    cases r with
    | nil => exact h.elim
    | cons q r =>
      obtain rfl := hpc q r rfl
      obtain ⟨h1, h2, h3⟩ := hC q (hr q List.mem_cons_self)
      refine stp_sound X h1 h2 h3 h ?_ ?_
      · intro L' S' σ' hN
        cases hcut : cut (q.1 + q.2.2.1) with
        | some I =>
          rw [hcut] at hN
          obtain ⟨k, hk, hi⟩ := hN
          exact hI _ I _ _ _ k hcut hk hi
        | none =>
          rw [hcut] at hN
          refine ih r _ L' S' σ' (fun z hz => hr z (List.mem_cons_of_mem _ hz)) (lnk_tail hlr) ?_ hN
          intro z r' hz
          subst hz
          exact lnk_next hlr
      · intro t L' S' σ' hJ
        cases hcut : cut t with
        | some I =>
          rw [hcut] at hJ
          obtain ⟨k, hk, hi⟩ := hJ
          exact hI _ I _ _ _ k hcut hk hi
        | none =>
          rw [hcut] at hJ
          exact ih (drp t C) t L' S' σ' (fun z hz => drp_sub hz) (drp_lnk hl) (fun z r' hz => drp_head hz) hJ
/-- Floyd: what holds at the cuts is kept, and its number falls -/
theorem floydG {own : String} {M : MI} {K : Option Int → Mem → Prop} (X : Cx xx p l e R s m args below meth c cells slots Q D cy ad A cc nL own M K) {C : CL} {cut : Cut} {f : Nat} (hC : ∀ q ∈ C, chk cc q) (hl : lnk C = true)
    (hS : ∀ pc I L S σ k, cut pc = some I → I L S σ k → wp M C cut (fun k' => k' < k) K f (drp pc C) L S σ ∨ Gd xx p l e R s m args below meth c cells slots Q D cy ad A nL pc L S σ) :
    ∀ (pc : Nat) (L : LL) (S : List AV) (σ : Mem), wp M C cut (fun _ => True) K f (drp pc C) L S σ → Gd xx p l e R s m args below meth c cells slots Q D cy ad A nL pc L S σ := by
  have key : ∀ (k : Nat) pc I L S σ, cut pc = some I → I L S σ k → Gd xx p l e R s m args below meth c cells slots Q D cy ad A nL pc L S σ := by
    intro k
    induction k using Nat.strongRecOn with
    | ind k ih =>
      intro pc I L S σ hcut hi
      rcases hS pc I L S σ k hcut hi with hw | hg
      · exact wp_sound X hC hl (fun pc' I' L' S' σ' k' hc hk hi' => ih k' hk pc' I' L' S' σ' hc hi') f (drp pc C) pc L S σ (fun z hz => drp_sub hz) (drp_lnk hl) (fun z r' hz => drp_head hz) hw
      · exact hg
  intro pc L S σ h
  exact wp_sound X hC hl (fun pc' I' L' S' σ' k' hc _ hi' => key k' pc' I' L' S' σ' hc hi') f (drp pc C) pc L S σ (fun z hz => drp_sub hz) (drp_lnk hl) (fun z r' hz => drp_head hz) h
theorem floyd {own : String} {M : MI} {K : Option Int → Mem → Prop} (X : Cx xx p l e R s m args below meth c cells slots Q D cy ad A cc nL own M K) {C : CL} {cut : Cut} {f : Nat} (hC : ∀ q ∈ C, chk cc q) (hl : lnk C = true)
    (hS : ∀ pc I L S σ k, cut pc = some I → I L S σ k → wp M C cut (fun k' => k' < k) K f (drp pc C) L S σ) :
    ∀ (pc : Nat) (L : LL) (S : List AV) (σ : Mem), wp M C cut (fun _ => True) K f (drp pc C) L S σ → Gd xx p l e R s m args below meth c cells slots Q D cy ad A nL pc L S σ := floydG X hC hl (fun pc I L S σ k h1 h2 => Or.inl (hS pc I L S σ k h1 h2))
end
