/-! the reference's search -/
theorem aQo_cg {ln fs q0 q q' : Int → Int} (hf : ∀ m, 0 ≤ m → m < 4 → fs m ≤ ln m) (h : aQo ln fs q0 q) (e : ∀ m k, 0 ≤ m → m < 4 → 0 ≤ k → k < ln m → q' (4 * m + k) = q (4 * m + k)) : aQo ln fs q0 q' := fun m m0 m1 => arO_cg (hf m m0 m1) (h m m0 m1) (fun k k0 k1 => e m k m0 m1 k0 k1)
def rts (τ σ : Mem) : Prop := ∀ x, 0 ≤ x → x < 49 → τ 38 0 x = σ 38 0 x
theorem rts_e {τ σ : Mem} (h : rts τ σ) : τ 38 0 0 = σ 38 0 0 ∧ (∀ j, 0 ≤ j → j < 4 → rSt τ j = rSt σ j ∧ rRe τ j = rRe σ j ∧ rDd τ j = rDd σ j) ∧ (∀ o, 0 ≤ o → o < 16 → rMc τ o = rMc σ o ∧ rDu τ o = rDu σ o) ∧ (∀ m, 0 ≤ m → m < 4 → rLn τ m = rLn σ m) ∧ rOp τ = rOp σ := by
  have a : ∀ j, 0 ≤ j → j < 4 → rSt τ j = rSt σ j ∧ rRe τ j = rRe σ j ∧ rDd τ j = rDd σ j := fun j j0 j1 => ⟨h _ (by omega) (by omega), h _ (by omega) (by omega), h _ (by omega) (by omega)⟩
  exact ⟨h 0 (by omega) (by omega), a, fun o o0 o1 => ⟨h _ (by omega) (by omega), h _ (by omega) (by omega)⟩, fun m m0 m1 => h _ (by omega) (by omega), funext fun o => propext (vOp_cg (fun j j0 j1 => (a j j0 j1).1) o)⟩
/-- what a search begins with; q0 the orders as they were, fs how many of each stay -/
def SPr (σ : Mem) (q0 fs : Int → Int) : Prop := hOK σ ∧ WF (σ 38 0 0) (rSt σ) (rMc σ) (rDu σ) (rLn σ) q0 ∧ (∀ m, 0 ≤ m → m < 4 → 0 ≤ fs m ∧ fs m ≤ rLn σ m) ∧ aQo (rLn σ) fs q0 (rQ σ) ∧ ∀ m, 0 ≤ m → m < 4 → (1 ≤ σ 49 0 m ∧ σ 49 0 m ≤ 24) ∧ (∀ k, 0 ≤ k → k < σ 49 0 m → arO (rLn σ m) (fs m) (fun k => q0 (4 * m + k)) (plR σ m k)) ∧ (∀ k k', 0 ≤ k → k < k' → k' < σ 49 0 m → nuQ (rLn σ m) (plR σ m k) < nuQ (rLn σ m) (plR σ m k')) ∧ ∀ g, arO (rLn σ m) (fs m) (fun k => q0 (4 * m + k)) g → ∃ k, 0 ≤ k ∧ k < σ 49 0 m ∧ ∀ i, 0 ≤ i → i < rLn σ m → plR σ m k i = g i
def KND (σ : Mem) (q0 fs : Int → Int) (τ : Mem) : Prop := rts τ σ ∧ (∀ o, rOp σ o → τ 43 0 o = σ 43 0 o ∧ τ 44 0 o = σ 44 0 o ∧ (σ 44 0 o ≠ 0 → τ 45 0 o = σ 45 0 o)) ∧ aQo (rLn σ) fs q0 (rQ τ)
theorem KND_ok {σ τ : Mem} {q0 fs : Int → Int} (hp : SPr σ q0 fs) (h : KND σ q0 fs τ) : hOK τ ∧ rOp τ = rOp σ := by
  obtain ⟨h1, h2, h3⟩ := h
  obtain ⟨e0, e1, e2, e3, e4⟩ := rts_e h1
  obtain ⟨p1, p2, -⟩ := hp
  have w : WF (σ 38 0 0) (rSt σ) (rMc σ) (rDu σ) (rLn σ) (rQ τ) := WF_arr p2 (fun m m0 m1 => (h3 m m0 m1).1)
  have ag : AG (σ 38 0 0) (τ 38 0 0) (rSt σ) (rSt τ) (rMc σ) (rMc τ) (rDu σ) (rDu τ) (rRe σ) (rRe τ) (rLn σ) (rLn τ) (rQ τ) (rQ τ) := ⟨e0.symm, fun j a b => (e1 j a b).1.symm, fun o v => ⟨(e2 o v.1 v.2.1).1.symm, (e2 o v.1 v.2.1).2.symm, (e1 _ (vOp_j v).1 (vOp_j v).2.1).2.1.symm⟩, fun m a b => (e3 m a b).symm, fun _ _ _ _ _ _ => rfl⟩
  refine ⟨⟨⟨ag.wf w, fun j a b => ?_⟩, fun o v => ?_⟩, e4⟩
  · rw [e0] at b
    have j4 : j < 4 := by
      have := p1.1.1.1
      omega
    rw [(e1 j a j4).2.1, (e1 j a j4).2.2]
    exact p1.1.2 j a b
  · rw [e4] at v
    obtain ⟨a, b, c⟩ := h2 o v
    have := p1.2 o v
    rw [a, b]
    refine ⟨this.1, this.2.1, fun z => ?_⟩
    rw [c z]
    exact this.2.2 z
theorem KND_sm {σ τ τ' : Mem} {q0 fs : Int → Int} {M : Int} (h : KND σ q0 fs τ) (h' : KND σ q0 fs τ') (hr : ∀ m k, 0 ≤ m → m < M → m < 4 → 0 ≤ k → k < rLn σ m → rQ τ (4 * m + k) = rQ τ' (4 * m + k)) : smO τ τ' M := by
  obtain ⟨e0, e1, e2, e3, e4⟩ := rts_e h.1
  obtain ⟨f0, f1, f2, f3, f4⟩ := rts_e h'.1
  refine ⟨fun j a b => by rw [(e1 j a b).1, (f1 j a b).1], fun o v => ?_, fun m a b => by rw [e3 m a b, f3 m a b], fun m k m0 mM m1 k0 k1 => ?_⟩
  · rw [f4] at v
    obtain ⟨a, b, c⟩ := h.2.1 o v
    obtain ⟨a', b', c'⟩ := h'.2.1 o v
    have j := vOp_j v
    refine ⟨by rw [(e2 o v.1 v.2.1).1, (f2 o v.1 v.2.1).1], by rw [(e2 o v.1 v.2.1).2, (f2 o v.1 v.2.1).2], by rw [(e1 _ j.1 j.2.1).2.1, (f1 _ j.1 j.2.1).2.1], by rw [a, a'], by rw [b, b'], fun z => ?_⟩
    rw [b'] at z
    rw [c z, c' z]
  · rw [f3 m m0 m1] at k1
    exact hr m k m0 mM m1 k0 k1
theorem KND_wq {σ : Mem} {q0 fs q : Int → Int} (hf : ∀ m, 0 ≤ m → m < 4 → fs m ≤ rLn σ m) (hl : ∀ m, 0 ≤ m → m < 4 → rLn σ m ≤ 4) (h : aQo (rLn σ) fs q0 q) : KND σ q0 fs (wqM σ q) := by
  refine ⟨fun x a b => wqM_l (Or.inl b), fun o v => ?_, aQo_cg hf h (fun m k m0 m1 k0 k1 => wqM_q (by omega) (by have := hl m m0 m1; omega))⟩
  rw [wqM_o (Or.inl (by omega)), wqM_o (Or.inl (by omega)), wqM_o (Or.inl (by omega))]
  exact ⟨rfl, rfl, fun _ => rfl⟩
/-- the length with the orders q; none if there is a way round -/
def LqO (σ : Mem) (q : Int → Int) (L : Int) : Prop := ∃ h, SolF (rOp (wqM σ q)) (hF (wqM σ q) 4) h ∧ MxE (wqM σ q) h L
def pSe (t a : Nat) (x : Int) : Prop := a = 0 ∧ ((t = 38 ∧ 49 ≤ x ∧ x < 65) ∨ t = 45 ∨ t = 50 ∨ t = 51)
def qtT (σ : Mem) (t : Int → Int) (x : Int) : Int := plR σ (x / 4) (t (x / 4)) (x % 4)
def vTt (σ : Mem) (t : Int → Int) : Prop := ∀ m, 0 ≤ m → m < 4 → 0 ≤ t m ∧ t m < σ 49 0 m
def hnS (l : Int) (t' t : Int → Int) : Prop := ∃ i, 0 ≤ i ∧ i ≤ l ∧ (∀ j, 0 ≤ j → j < i → t j = t' j) ∧ t i < t' i
def hnD (l : Int) (t' t : Int → Int) : Prop := ∃ i, 0 ≤ i ∧ i ≤ l ∧ (∀ j, 0 ≤ j → j < i → t j = t' j) ∧ (t i < t' i ∨ (i = l ∧ t i = t' i))
def fsL (ts t : Int → Int) : Prop := ∀ i, 0 ≤ i → i < 4 → (∀ j, 0 ≤ j → j < i → ts j = t j) → ts i ≤ t i
def BSt (σ : Mem) (fd : Int → Int) (le : Int) (H : (Int → Int) → Prop) : Prop := (∀ t, vTt σ t → H t → ∀ L, LqO σ (qtT σ t) L → le ≤ L) ∧ (le = 1000000 ∨ (0 ≤ le ∧ le ≤ 20000 ∧ ∃ ts, vTt σ ts ∧ H ts ∧ LqO σ (qtT σ ts) le ∧ (∀ m k, 0 ≤ m → m < 4 → 0 ≤ k → k < rLn σ m → fd (4 * m + k) = qtT σ ts (4 * m + k)) ∧ ∀ t, vTt σ t → H t → LqO σ (qtT σ t) le → fsL ts t))
theorem BSt_cg {σ : Mem} {fd fd' : Int → Int} {le : Int} {H H' : (Int → Int) → Prop} (h : BSt σ fd le H) (hf : fd' = fd) (e : ∀ t, vTt σ t → (H t ↔ H' t)) : BSt σ fd' le H' := by
  subst hf
  refine ⟨fun t v a => h.1 t v ((e t v).mpr a), ?_⟩
  rcases h.2 with z | ⟨z1, z2, ts, a, b, c, d, f⟩
  · exact Or.inl z
  · exact Or.inr ⟨z1, z2, ts, a, (e ts a).mp b, c, d, fun t v x => f t v ((e t v).mpr x)⟩
def SeB (σ : Mem) (q0 fs : Int → Int) (σ' : Mem) : Prop := FrG pSe σ σ' ∧ (∀ o, rOp σ o → σ 44 0 o ≠ 0 → σ' 45 0 o = σ 45 0 o) ∧ aQo (rLn σ) fs q0 (rQ σ')
def rwL (σ σ' : Mem) (l : Int) : Prop := ∀ m, 0 ≤ m → m < 4 → m < l → (0 ≤ σ' 50 0 m ∧ σ' 50 0 m < σ 49 0 m) ∧ ∀ k, 0 ≤ k → k < rLn σ m → rQ σ' (4 * m + k) = plR σ m (σ' 50 0 m) k
def SeI (σ : Mem) (q0 fs : Int → Int) (σ' : Mem) (l le : Int) : Prop := SeB σ q0 fs σ' ∧ (-1 ≤ l ∧ l ≤ 3) ∧ rwL σ σ' l ∧ (0 ≤ l → -1 ≤ σ' 50 0 l ∧ σ' 50 0 l < σ 49 0 l) ∧ BSt σ (σ' 51 0) le (fun t => l < 0 ∨ hnD l (σ' 50 0) t)
def Se1 (σ : Mem) (q0 fs : Int → Int) (σ' : Mem) (l le : Int) : Prop := SeB σ q0 fs σ' ∧ (0 ≤ l ∧ l ≤ 3) ∧ rwL σ σ' (l + 1) ∧ BSt σ (σ' 51 0) le (hnS l (σ' 50 0))
theorem SeB_k {σ σ' : Mem} {q0 fs : Int → Int} (h : SeB σ q0 fs σ') : KND σ q0 fs σ' := by
  obtain ⟨h1, h2, h3⟩ := h
  refine ⟨fun x a b => h1 38 0 x ?_, fun o v => ⟨h1 43 0 o ?_, h1 44 0 o ?_, h2 o v⟩, h3⟩
  · rintro ⟨-, q | q | q | q⟩ <;> omega
  · rintro ⟨-, q | q | q | q⟩ <;> omega
  · rintro ⟨-, q | q | q | q⟩ <;> omega
theorem SeB_up {σ σ' : Mem} {q0 fs : Int → Int} {x v : Int} (h : SeB σ q0 fs σ') : SeB σ q0 fs (up σ' 50 0 x v) := by
  obtain ⟨h1, h2, h3⟩ := h
  refine ⟨h1.u ⟨rfl, Or.inr (Or.inr (Or.inl rfl))⟩, fun o w z => ?_, ?_⟩
  · rw [up_ap, if_neg (by rintro ⟨q, -⟩; omega)]
    exact h2 o w z
  · have : rQ (up σ' 50 0 x v) = rQ σ' := by
      funext y
      unfold rQ
      rw [up_ap, if_neg (by rintro ⟨q, -⟩; omega)]
    rw [this]
    exact h3
theorem up50 {σ : Mem} {l v m : Int} : up σ 50 0 l v 50 0 m = if m = l then v else σ 50 0 m := by
  rw [up_ap]
  by_cases c : m = l
  · rw [if_pos c, if_pos ⟨rfl, rfl, c⟩]
  · rw [if_neg c, if_neg (fun q => c q.2.2)]
theorem rQ_50 {σ : Mem} {l v x : Int} : rQ (up σ 50 0 l v) x = rQ σ x := by
  unfold rQ
  rw [up_ap, if_neg (by rintro ⟨q, -⟩; omega)]
theorem up51 {σ : Mem} {l v : Int} : up σ 50 0 l v 51 0 = σ 51 0 := by
  funext y
  rw [up_ap, if_neg (by rintro ⟨q, -⟩; omega)]
theorem Se_down {σ σ' σ2 : Mem} {q0 fs : Int → Int} {l le : Int} (h : SeI σ q0 fs σ' l le) (l0 : 0 ≤ l) (he : σ' 50 0 l + 1 = σ 49 0 l) (h2 : σ2 = up σ' 50 0 l (σ' 50 0 l + 1)) : SeI σ q0 fs σ2 (l - 1) le := by
  obtain ⟨h1, hl, hr, ht, hb⟩ := h
  have e : ∀ m, m ≠ l → σ2 50 0 m = σ' 50 0 m := fun m c => by rw [h2, up50, if_neg c]
  refine ⟨by rw [h2]; exact SeB_up h1, by omega, fun m m0 m1 ml => ?_, fun c => ?_, BSt_cg hb (by rw [h2, up51]) (fun t v => ?_)⟩
  · rw [e m (by omega), h2]
    obtain ⟨a, b⟩ := hr m m0 m1 (by omega)
    exact ⟨a, fun k k0 k1 => by rw [rQ_50]; exact b k k0 k1⟩
  · rw [e _ (by omega)]
    have := (hr (l - 1) c (by omega) (by omega)).1
    omega
  · constructor
    · rintro (c | ⟨i, i0, i1, ha, hi⟩)
      · omega
      · by_cases c : l = 0
        · exact Or.inl (by omega)
        · right
          by_cases d : i = l
          · refine ⟨l - 1, by omega, by omega, fun j j0 j1 => ?_, Or.inr ⟨rfl, ?_⟩⟩
            · rw [e j (by omega)]
              exact ha j j0 (by omega)
            · rw [e _ (by omega)]
              exact ha (l - 1) (by omega) (by omega)
          · refine ⟨i, i0, by omega, fun j j0 j1 => ?_, Or.inl ?_⟩
            · rw [e j (by omega)]
              exact ha j j0 j1
            · rw [e i d]
              rcases hi with hi | hi
              · exact hi
              · exact absurd hi.1 d
    · rintro (c | ⟨i, i0, i1, ha, hi⟩)
      · right
        have := v 0 (by omega) (by omega)
        have el : l = 0 := by omega
        rw [el] at he ⊢
        exact ⟨0, by omega, by omega, fun j a b => by omega, by omega⟩
      · right
        rcases hi with hi | ⟨hi1, hi2⟩
        · rw [e i (by omega)] at hi
          exact ⟨i, i0, by omega, fun j j0 j1 => by rw [ha j j0 j1, e j (by omega)], Or.inl hi⟩
        · rw [e i (by omega)] at hi2
          have := v l l0 (by omega)
          refine ⟨l, l0, by omega, fun j j0 j1 => ?_, by omega⟩
          by_cases c : j = i
          · rw [c]
            exact hi2
          · rw [ha j j0 (by omega), e j (by omega)]
theorem Se_fr {σ σ' σ2 : Mem} {q0 fs : Int → Int} {l le : Int} (h : Se1 σ q0 fs σ' l le) (hF : FrG p45 σ' σ2) (hs : ∀ o, rOp σ' o → σ' 44 0 o ≠ 0 → σ2 45 0 o = σ' 45 0 o) : Se1 σ q0 fs σ2 l le := by
  obtain ⟨hB, hl, hr, hb⟩ := h
  have e50 : σ2 50 0 = σ' 50 0 := hF.f 50 0 (by rintro x ⟨q, -⟩; omega)
  have e51 : σ2 51 0 = σ' 51 0 := hF.f 51 0 (by rintro x ⟨q, -⟩; omega)
  have eq : rQ σ2 = rQ σ' := by
    funext x
    exact hF 38 0 _ (by rintro ⟨q, -⟩; omega)
  have eo := (rts_e (SeB_k hB).1).2.2.2.2
  refine ⟨⟨hB.1.t (hF.w (by rintro t a x ⟨q1, q2⟩; exact ⟨q2, Or.inr (Or.inl q1)⟩)), fun o v z => ?_, by rw [eq]; exact hB.2.2⟩, hl, ?_, by rw [e50, e51]; exact hb⟩
  · have z' : σ' 44 0 o ≠ 0 := by
      rw [((SeB_k hB).2.1 o v).2.1]
      exact z
    rw [hs o (by rw [eo]; exact v) z', hB.2.1 o v z]
  · unfold rwL
    rw [e50, eq]
    exact hr
/-- agree up to l -/
def agT (l : Int) (t' t : Int → Int) : Prop := ∀ j, 0 ≤ j → j ≤ l → t j = t' j
theorem hnD_S {l : Int} {t' t : Int → Int} (l0 : 0 ≤ l) : hnD l t' t ↔ hnS l t' t ∨ agT l t' t := by
  constructor
  · rintro ⟨i, i0, i1, ha, hi | ⟨hi, he⟩⟩
    · exact Or.inl ⟨i, i0, i1, ha, hi⟩
    · refine Or.inr (fun j j0 j1 => ?_)
      by_cases c : j = i
      · rw [c]
        exact he
      · exact ha j j0 (by omega)
  · rintro (⟨i, i0, i1, ha, hi⟩ | h)
    · exact ⟨i, i0, i1, ha, Or.inl hi⟩
    · exact ⟨l, l0, by omega, fun j j0 j1 => h j j0 (by omega), Or.inr ⟨rfl, h l l0 (by omega)⟩⟩
/-- those handled come first -/
theorem hnS_f {l : Int} {t' ts t : Int → Int} (h : hnS l t' ts) (ha : agT l t' t) : fsL ts t := by
  obtain ⟨i, i0, i1, hi, hl⟩ := h
  intro e e0 e1 he
  rcases (show e < i ∨ e = i ∨ i < e by omega) with c | c | c
  · have a := hi e e0 c
    have b := ha e e0 (by omega)
    omega
  · subst c
    have b := ha e e0 i1
    omega
  · have a := he i i0 c
    have b := ha i i0 i1
    omega
theorem Se_skip {σ σ' : Mem} {q0 fs : Int → Int} {l le : Int} (h : Se1 σ q0 fs σ' l le) (hn : ∀ t, vTt σ t → agT l (σ' 50 0) t → ∀ L, LqO σ (qtT σ t) L → le ≤ L) : SeI σ q0 fs σ' l le := by
  obtain ⟨hB, hl, hr, hb⟩ := h
  have hl' := hr l hl.1 (by omega) (by omega)
  refine ⟨hB, by omega, fun m m0 m1 ml => hr m m0 m1 (by omega), fun _ => by omega, fun t v hH L hL => ?_, ?_⟩
  · rcases hH with c | c
    · omega
    · rcases (hnD_S hl.1).mp c with c | c
      · exact hb.1 t v c L hL
      · exact hn t v c L hL
  · rcases hb.2 with z | ⟨z1, z2, ts, a, b, c, d, f⟩
    · exact Or.inl z
    · refine Or.inr ⟨z1, z2, ts, a, Or.inr ((hnD_S hl.1).mpr (Or.inl b)), c, d, fun t v hH hL => ?_⟩
      rcases hH with e | e
      · omega
      · rcases (hnD_S hl.1).mp e with e | e
        · exact f t v e hL
        · exact hnS_f b e
theorem Se_up {σ σ' σ2 : Mem} {q0 fs : Int → Int} {l le : Int} (hp : SPr σ q0 fs) (h : Se1 σ q0 fs σ' l le) (h3 : l < 3) (h2 : σ2 = up σ' 50 0 (l + 1) (-1)) : SeI σ q0 fs σ2 (l + 1) le := by
  obtain ⟨hB, hl, hr, hb⟩ := h
  have e : ∀ m, m ≠ l + 1 → σ2 50 0 m = σ' 50 0 m := fun m c => by rw [h2, up50, if_neg c]
  have el : σ2 50 0 (l + 1) = -1 := by rw [h2, up50, if_pos rfl]
  refine ⟨by rw [h2]; exact SeB_up hB, by omega, fun m m0 m1 ml => ?_, fun _ => ?_, BSt_cg hb (by rw [h2, up51]) (fun t v => ?_)⟩
  · rw [e m (by omega), h2]
    obtain ⟨a, b⟩ := hr m m0 m1 (by omega)
    exact ⟨a, fun k k0 k1 => by rw [rQ_50]; exact b k k0 k1⟩
  · have := (hp.2.2.2.2 (l + 1) (by omega) (by omega)).1
    omega
  · constructor
    · rintro ⟨i, i0, i1, ha, hi⟩
      exact Or.inr ⟨i, i0, by omega, fun j j0 j1 => by rw [ha j j0 j1, e j (by omega)], Or.inl (by rw [e i (by omega)]; exact hi)⟩
    · rintro (c | ⟨i, i0, i1, ha, hi⟩)
      · omega
      · by_cases c : i = l + 1
        · have := v i i0 (by omega)
          rw [c] at hi this
          rw [el] at hi
          omega
        · rw [e i c] at hi
          exact ⟨i, i0, by omega, fun j j0 j1 => by rw [ha j j0 j1, e j (by omega)], by omega⟩
theorem qt_arr {σ : Mem} {q0 fs t : Int → Int} (hp : SPr σ q0 fs) (v : vTt σ t) : aQo (rLn σ) fs q0 (qtT σ t) := by
  intro m m0 m1
  have h := (hp.2.2.2.2 m m0 m1).2.1 (t m) (v m m0 m1).1 (v m m0 m1).2
  have h4 : rLn σ m ≤ 4 := (hp.1.1.1.2.2.2.2.1 m m0 m1).2
  refine arO_cg (hp.2.2.1 m m0 m1).2 h (fun k k0 k1 => ?_)
  show plR σ ((4 * m + k) / 4) (t ((4 * m + k) / 4)) ((4 * m + k) % 4) = _
  rw [show (4 * m + k) / 4 = m by omega, show (4 * m + k) % 4 = k by omega]
theorem SPr_l {σ : Mem} {q0 fs : Int → Int} (hp : SPr σ q0 fs) : (∀ m, 0 ≤ m → m < 4 → fs m ≤ rLn σ m) ∧ ∀ m, 0 ≤ m → m < 4 → rLn σ m ≤ 4 := ⟨fun m a b => (hp.2.2.1 m a b).2, fun m a b => (hp.1.1.1.2.2.2.2.1 m a b).2⟩
theorem qt_k {σ : Mem} {q0 fs t : Int → Int} (hp : SPr σ q0 fs) (v : vTt σ t) : KND σ q0 fs (wqM σ (qtT σ t)) := KND_wq (SPr_l hp).1 (SPr_l hp).2 (qt_arr hp v)
theorem Se_sm {σ σ' : Mem} {q0 fs t : Int → Int} {l le : Int} (hp : SPr σ q0 fs) (h : Se1 σ q0 fs σ' l le) (v : vTt σ t) (ha : agT l (σ' 50 0) t) : smO σ' (wqM σ (qtT σ t)) (l + 1) := by
  obtain ⟨hB, hl, hr, hb⟩ := h
  refine KND_sm (SeB_k hB) (qt_k hp v) (fun m k m0 ml m1 k0 k1 => ?_)
  have h4 := (SPr_l hp).2 m m0 m1
  rw [wqM_q (by omega) (by omega), (hr m m0 m1 ml).2 k k0 k1]
  show _ = plR σ ((4 * m + k) / 4) (t ((4 * m + k) / 4)) ((4 * m + k) % 4)
  rw [show (4 * m + k) / 4 = m by omega, show (4 * m + k) % 4 = k by omega, ha m m0 (by omega)]
theorem Se_part {σ σ' : Mem} {q0 fs t : Int → Int} {l le L : Int} (hp : SPr σ q0 fs) (h : Se1 σ q0 fs σ' l le) (v : vTt σ t) (ha : agT l (σ' 50 0) t) (hL : LqO σ (qtT σ t) L) : (∃ g, SolF (rOp σ') (hF σ' (l + 1)) g) ∧ ∀ g r, SolF (rOp σ') (hF σ' (l + 1)) g → MxE σ' g r → r ≤ L := by
  have hs := Se_sm hp h v ha
  have k1 := KND_ok hp (qt_k hp v)
  have k2 := KND_ok hp (SeB_k h.1)
  obtain ⟨w, W, hw⟩ := hL
  obtain ⟨x, y⟩ := hF_part (by have := h.2.1; omega) hs k1.1 k2.1 W
  refine ⟨x, fun g r G hr => ?_⟩
  have e := smO_op hs
  rcases hr.2.2 with z | ⟨o, vo, z⟩
  · have := hw.1
    omega
  · rw [e] at vo
    have a := y g G o vo
    have b := hw.2.1 o vo
    have c := (hs.2.1 o vo).2.1
    omega
theorem Se_full {σ σ' : Mem} {q0 fs : Int → Int} {le r : Int} (hp : SPr σ q0 fs) (h : Se1 σ q0 fs σ' 3 le) {g : Int → Int} (hg : SolF (rOp σ') (hF σ' 4) g) (hr : MxE σ' g r) : vTt σ (σ' 50 0) ∧ LqO σ (qtT σ (σ' 50 0)) r := by
  have v : vTt σ (σ' 50 0) := fun m m0 m1 => (h.2.2.1 m m0 m1 (by omega)).1
  have hs : smO σ' (wqM σ (qtT σ (σ' 50 0))) 4 := Se_sm (l := 3) hp h v (fun j _ _ => rfl)
  have k1 := KND_ok hp (qt_k hp v)
  have k2 := KND_ok hp (SeB_k h.1)
  have e := smO_op hs
  refine ⟨v, g, fun o vo => ?_, hr.1, fun o vo => ?_, ?_⟩
  · rw [← hF_sm hs k1.1.1 k2.1.1 vo]
    rw [← e] at vo
    exact hg o vo
  · have c := (hs.2.1 o vo).2.1
    rw [← e] at vo
    have := hr.2.1 o vo
    omega
  · rcases hr.2.2 with z | ⟨o, vo, z⟩
    · exact Or.inl z
    · rw [e] at vo
      have c := (hs.2.1 o vo).2.1
      exact Or.inr ⟨o, vo, by omega⟩
theorem LqO_sm {σ : Mem} {q q' : Int → Int} {L : Int} (hs : smO (wqM σ q) (wqM σ q') 4) (k1 : hOK (wqM σ q')) (k2 : hOK (wqM σ q)) (h : LqO σ q L) : LqO σ q' L := by
  obtain ⟨g, hg, hr⟩ := h
  have e := smO_op hs
  refine ⟨g, fun o vo => ?_, hr.1, fun o vo => ?_, ?_⟩
  · rw [← hF_sm hs k1.1 k2.1 vo]
    rw [← e] at vo
    exact hg o vo
  · have c := (hs.2.1 o vo).2.1
    rw [← e] at vo
    have := hr.2.1 o vo
    omega
  · rcases hr.2.2 with z | ⟨o, vo, z⟩
    · exact Or.inl z
    · rw [e] at vo
      have c := (hs.2.1 o vo).2.1
      exact Or.inr ⟨o, vo, by omega⟩
theorem LqO_cg {σ : Mem} {q0 fs q q' : Int → Int} {L : Int} (hp : SPr σ q0 fs) (a : aQo (rLn σ) fs q0 q) (a' : aQo (rLn σ) fs q0 q') (e : ∀ m k, 0 ≤ m → m < 4 → 0 ≤ k → k < rLn σ m → q (4 * m + k) = q' (4 * m + k)) (h : LqO σ q L) : LqO σ q' L := by
  have k := KND_wq (SPr_l hp).1 (SPr_l hp).2 a
  have k' := KND_wq (SPr_l hp).1 (SPr_l hp).2 a'
  refine LqO_sm (KND_sm k k' (fun m x m0 _ m1 x0 x1 => ?_)) (KND_ok hp k').1 (KND_ok hp k).1 h
  have h4 := (SPr_l hp).2 m m0 m1
  rw [wqM_q (by omega) (by omega), wqM_q (by omega) (by omega)]
  exact e m x m0 m1 x0 x1
/-- the orders at all places ahead of the place k of m are alike -/
def ahP (ln : Int → Int) (f q : Int → Int) (m k : Int) : Prop := ∀ m' k', 0 ≤ m' → 0 ≤ k' → k' < ln m' → (m' < m ∨ (m' = m ∧ k' < k)) → f (4 * m' + k') = q (4 * m' + k')
/-- what a search gives: the least length, and the first one of the orders with it -/
def SRe (σ : Mem) (q0 fs : Int → Int) (σ' : Mem) (le : Int) : Prop := SeB σ q0 fs σ' ∧ (∀ q, aQo (rLn σ) fs q0 q → ∀ L, LqO σ q L → le ≤ L) ∧ (le = 1000000 ∨ (0 ≤ le ∧ le ≤ 20000 ∧ aQo (rLn σ) fs q0 (σ' 51 0) ∧ LqO σ (σ' 51 0) le ∧ ∀ q, aQo (rLn σ) fs q0 q → LqO σ q le → ∀ m k, 0 ≤ m → m < 4 → 0 ≤ k → k < rLn σ m → ahP (rLn σ) (σ' 51 0) q m k → σ' 51 0 (4 * m + k) ≤ q (4 * m + k)))
theorem qt_ex {σ : Mem} {q0 fs q : Int → Int} (hp : SPr σ q0 fs) (h : aQo (rLn σ) fs q0 q) : ∃ t, vTt σ t ∧ ∀ m k, 0 ≤ m → m < 4 → 0 ≤ k → k < rLn σ m → qtT σ t (4 * m + k) = q (4 * m + k) := by
  have key : ∀ m, ∃ k, 0 ≤ m → m < 4 → 0 ≤ k ∧ k < σ 49 0 m ∧ ∀ i, 0 ≤ i → i < rLn σ m → plR σ m k i = q (4 * m + i) := by
    intro m
    by_cases c : 0 ≤ m ∧ m < 4
    · obtain ⟨k, k0, k1, e⟩ := (hp.2.2.2.2 m c.1 c.2).2.2.2 _ (h m c.1 c.2)
      exact ⟨k, fun _ _ => ⟨k0, k1, e⟩⟩
    · exact ⟨0, fun a b => absurd ⟨a, b⟩ c⟩
  obtain ⟨t, ht⟩ := Classical.skolem.mp key
  refine ⟨t, fun m m0 m1 => ⟨(ht m m0 m1).1, (ht m m0 m1).2.1⟩, fun m k m0 m1 k0 k1 => ?_⟩
  have h4 := (SPr_l hp).2 m m0 m1
  show plR σ ((4 * m + k) / 4) (t ((4 * m + k) / 4)) ((4 * m + k) % 4) = _
  rw [show (4 * m + k) / 4 = m by omega, show (4 * m + k) % 4 = k by omega]
  exact (ht m m0 m1).2.2 k k0 k1
theorem Se_end {σ σ' : Mem} {q0 fs : Int → Int} {l le : Int} (hp : SPr σ q0 fs) (h : SeI σ q0 fs σ' l le) (hl : l < 0) : SRe σ q0 fs σ' le := by
  obtain ⟨hB, -, -, -, hb⟩ := h
  refine ⟨hB, fun q a L hL => ?_, ?_⟩
  · obtain ⟨t, v, e⟩ := qt_ex hp a
    exact hb.1 t v (Or.inl hl) L (LqO_cg hp a (qt_arr hp v) (fun m k m0 m1 k0 k1 => (e m k m0 m1 k0 k1).symm) hL)
  · rcases hb.2 with z | ⟨z1, z2, ts, v, -, hL, hf, hmin⟩
    · exact Or.inl z
    · have af : aQo (rLn σ) fs q0 (σ' 51 0) := aQo_cg (SPr_l hp).1 (qt_arr hp v) hf
      refine Or.inr ⟨z1, z2, af, LqO_cg hp (qt_arr hp v) af (fun m k m0 m1 k0 k1 => (hf m k m0 m1 k0 k1).symm) hL, fun q a hq m k m0 m1 k0 k1 ha => ?_⟩
      obtain ⟨t, vt, e⟩ := qt_ex hp a
      have ft := hmin t vt (Or.inl hl) (LqO_cg hp a (qt_arr hp vt) (fun m k m0 m1 k0 k1 => (e m k m0 m1 k0 k1).symm) hq)
      have pl : ∀ (t : Int → Int) m k, 0 ≤ m → m < 4 → 0 ≤ k → k < rLn σ m → qtT σ t (4 * m + k) = plR σ m (t m) k := fun t m k m0 m1 k0 k1 => by
        have h4 := (SPr_l hp).2 m m0 m1
        show plR σ ((4 * m + k) / 4) (t ((4 * m + k) / 4)) ((4 * m + k) % 4) = _
        rw [show (4 * m + k) / 4 = m by omega, show (4 * m + k) % 4 = k by omega]
      have dg : ∀ (t : Int → Int), vTt σ t → ∀ m, 0 ≤ m → m < 4 → dgQ (rLn σ m) (plR σ m (t m)) := fun t vt m m0 m1 => by
        refine PRM_dg ((hp.2.2.2.2 m m0 m1).2.1 (t m) (vt m m0 m1).1 (vt m m0 m1).2).1 (fun k k0 k1 => ?_)
        have := hp.2.1.2.2.2.2.2.1 m k m0 m1 k0 k1
        exact ⟨this.1, this.2.1⟩
      have same : ∀ m', 0 ≤ m' → m' < m → ts m' = t m' := by
        intro m' a0 a1
        have a4 : m' < 4 := by omega
        have en : nuQ (rLn σ m') (plR σ m' (ts m')) = nuQ (rLn σ m') (plR σ m' (t m')) := nuQ_cg (fun x x0 x1 => by
          rw [← pl ts m' x a0 a4 x0 x1, ← pl t m' x a0 a4 x0 x1, e m' x a0 a4 x0 x1, ← hf m' x a0 a4 x0 x1]
          exact ha m' x a0 x0 x1 (Or.inl a1))
        have i1 := (hp.2.2.2.2 m' a0 a4).2.2.1
        have v1 := v m' a0 a4
        have v2 := vt m' a0 a4
        rcases (show ts m' < t m' ∨ ts m' = t m' ∨ t m' < ts m' by omega) with c | c | c
        · have := i1 _ _ v1.1 c v2.2
          omega
        · exact c
        · have := i1 _ _ v2.1 c v1.2
          omega
      have hm := ft m m0 m1 same
      have hn : nuQ (rLn σ m) (plR σ m (ts m)) ≤ nuQ (rLn σ m) (plR σ m (t m)) := by
        by_cases c : ts m = t m
        · rw [c]
          exact Int.le_refl _
        · have := (hp.2.2.2.2 m m0 m1).2.2.1 _ _ (v m m0 m1).1 (show ts m < t m by omega) (vt m m0 m1).2
          omega
      have h4 := (SPr_l hp).2 m m0 m1
      have := nuQ_lt h4 (dg ts v m m0 m1) (dg t vt m m0 m1) hn k0 k1 (fun x x0 x1 => by
        rw [← pl ts m x m0 m1 x0 (by omega), ← pl t m x m0 m1 x0 (by omega), e m x m0 m1 x0 (by omega), ← hf m x m0 m1 x0 (by omega)]
        exact ha m x m0 x0 (by omega) (Or.inr ⟨rfl, x1⟩))
      rw [hf m k m0 m1 k0 k1, pl ts m k m0 m1 k0 k1, ← e m k m0 m1 k0 k1, pl t m k m0 m1 k0 k1]
      exact this
