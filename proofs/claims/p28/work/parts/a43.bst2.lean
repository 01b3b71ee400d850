/-! the best plan is one alone; agreeing workshops have the same -/
theorem ahP_all {ln f q : Int → Int} (hl : ∀ m, 0 ≤ m → m < 4 → ln m ≤ 4) (h : ∀ m k, 0 ≤ m → m < 4 → 0 ≤ k → k < ln m → ahP ln f q m k → f (4 * m + k) = q (4 * m + k)) : ∀ m k, 0 ≤ m → m < 4 → 0 ≤ k → k < ln m → f (4 * m + k) = q (4 * m + k) := by
  have key : ∀ (n : Nat) (m k : Int), 0 ≤ m → m < 4 → 0 ≤ k → k < ln m → 4 * m + k < n → f (4 * m + k) = q (4 * m + k) := by
    intro n
    induction n with
    | zero => intro m k a b c d e; omega
    | succ n ih =>
      intro m k a b c d e
      have h4 := hl m a b
      refine h m k a b c d (fun m' k' a' c' d' e' => ?_)
      have h4' := hl m' a' (by omega)
      exact ih m' k' a' (by omega) c' d' (by omega)
  intro m k a b c d
  exact key (4 * m + k + 1).toNat m k a b c d (by omega)
theorem bstG_un {st mc du rd ln fs q0 f f' : Int → Int} {le le' : Int} (hl : ∀ m, 0 ≤ m → m < 4 → ln m ≤ 4) (h : bstG st mc du rd ln fs q0 le f) (h' : bstG st mc du rd ln fs q0 le' f') (hn : le ≠ 1000000) : le = le' ∧ ∀ m k, 0 ≤ m → m < 4 → 0 ≤ k → k < ln m → f (4 * m + k) = f' (4 * m + k) := by
  obtain ⟨a, z | ⟨a1, a2, a3, a4, a5⟩⟩ := h
  · exact absurd z hn
  · obtain ⟨b, z | ⟨b1, b2, b3, b4, b5⟩⟩ := h'
    · have := b f a3 le a4
      omega
    · have e1 := a f' b3 le' b4
      have e2 := b f a3 le a4
      have e : le = le' := by omega
      subst e
      refine ⟨rfl, ahP_all hl (fun m k m0 m1 k0 k1 hp => ?_)⟩
      have x := a5 f' b3 b4 m k m0 m1 k0 k1 hp
      have y := b5 f a3 a4 m k m0 m1 k0 k1 (fun m' k' p q r s => (hp m' k' p q r s).symm)
      omega
theorem aQo_ag {ln ln' fs q0 q0' q : Int → Int} (hf : ∀ m, 0 ≤ m → m < 4 → fs m ≤ ln m) (hl : ∀ m, 0 ≤ m → m < 4 → ln m = ln' m) (hq : ∀ m k, 0 ≤ m → m < 4 → 0 ≤ k → k < ln m → q0 (4 * m + k) = q0' (4 * m + k)) (h : aQo ln fs q0 q) : aQo ln' fs q0' q := fun m m0 m1 => by
  rw [← hl m m0 m1]
  exact arO_c0 (hf m m0 m1) (h m m0 m1) (fun k a b => (hq m k m0 m1 a b).symm)
theorem lenR_cg {J J' : Int} {st st' mc mc' du du' rd rd' re re' ln ln' q q' : Int → Int} {L : Int} (ag : AG J J' st st' mc mc' du du' re re' ln ln' q q') (hW : WF J st mc du ln q) (hrd : ∀ o, vOp st o → rd o = rd' o) (h : lenR st mc du rd ln q L) : lenR st' mc' du' rd' ln' q' L := by
  obtain ⟨g, H, a, b, c⟩ := h
  have eV : vOp st' = vOp st := funext fun o => propext (ag.V o)
  refine ⟨g, ?_, a, fun o v => ?_, ?_⟩
  · rw [eV]
    exact (IsHead_cg (V := vOp st) (fun o' o v' v => ag.P hW v' v) (fun o v => (ag.2.2.1 o v).2.1) hrd).mp H
  · rw [eV] at v
    rw [← (ag.2.2.1 o v).2.1]
    exact b o v
  · rcases c with c | ⟨o, v, c⟩
    · exact Or.inl c
    · exact Or.inr ⟨o, by rw [eV]; exact v, by rw [← (ag.2.2.1 o v).2.1]; exact c⟩
theorem AG.q {J J' : Int} {st st' mc mc' du du' re re' ln ln' q q' : Int → Int} (h : AG J J' st st' mc mc' du du' re re' ln ln' q q') (p : Int → Int) : AG J J' st st' mc mc' du du' re re' ln ln' p p := ⟨h.1, h.2.1, h.2.2.1, h.2.2.2.1, fun _ _ _ _ _ _ => rfl⟩
theorem bstG_cg {J J' : Int} {st st' mc mc' du du' rd rd' re re' ln ln' fs q0 q0' f : Int → Int} {le : Int} (ag : AG J J' st st' mc mc' du du' re re' ln ln' q0 q0') (hW : WF J st mc du ln q0) (hrd : ∀ o, vOp st o → rd o = rd' o) (hf : ∀ m, 0 ≤ m → m < 4 → fs m ≤ ln m) (h : bstG st mc du rd ln fs q0 le f) : bstG st' mc' du' rd' ln' fs q0' le f := by
  have ag' := ag.sy
  have eV : vOp st' = vOp st := funext fun o => propext (ag.V o)
  have hW' := ag.wf hW
  have hf' : ∀ m, 0 ≤ m → m < 4 → fs m ≤ ln' m := fun m a b => by rw [← ag.2.2.2.1 m a b]; exact hf m a b
  have back : ∀ q, aQo ln' fs q0' q → aQo ln fs q0 q := fun q a => aQo_ag hf' (fun m x y => (ag.2.2.2.1 m x y).symm) ag'.2.2.2.2 a
  have fwd : ∀ q, aQo ln fs q0 q → aQo ln' fs q0' q := fun q a => aQo_ag hf ag.2.2.2.1 ag.2.2.2.2 a
  have lf : ∀ q L, aQo ln fs q0 q → lenR st mc du rd ln q L → lenR st' mc' du' rd' ln' q L := fun q L a => lenR_cg (ag.q q) (aQo_wf hW a) hrd
  have lb : ∀ q L, aQo ln fs q0 q → lenR st' mc' du' rd' ln' q L → lenR st mc du rd ln q L := fun q L a => lenR_cg (ag'.q q) (aQo_wf hW' (fwd q a)) (fun o v => by rw [eV] at v; exact (hrd o v).symm)
  obtain ⟨h1, h2⟩ := h
  refine ⟨fun q a L hL => h1 q (back q a) L (lb q L (back q a) hL), ?_⟩
  rcases h2 with z | ⟨a1, a2, a3, a4, a5⟩
  · exact Or.inl z
  · refine Or.inr ⟨a1, a2, fwd f a3, lf f le a3 a4, fun q a hq m k m0 m1 k0 k1 hp => ?_⟩
    have el := ag.2.2.2.1
    refine a5 q (back q a) (lb q le (back q a) hq) m k m0 m1 k0 (by rw [el m m0 m1]; exact k1) (fun m' k' p r s t => hp m' k' p r ?_ t)
    rw [← el m' p (by omega)]
    exact s
/-- the found plan may be another row with the same places -/
theorem bstG_f {st mc du rd ln fs q0 f f' : Int → Int} {le J : Int} (hW : WF J st mc du ln q0) (hf : ∀ m, 0 ≤ m → m < 4 → fs m ≤ ln m) (e : ∀ m k, 0 ≤ m → m < 4 → 0 ≤ k → k < ln m → f' (4 * m + k) = f (4 * m + k)) (h : bstG st mc du rd ln fs q0 le f) : bstG st mc du rd ln fs q0 le f' := by
  obtain ⟨h1, h2⟩ := h
  refine ⟨h1, ?_⟩
  rcases h2 with z | ⟨a1, a2, a3, a4, a5⟩
  · exact Or.inl z
  · have a3' := aQo_cg hf a3 e
    refine Or.inr ⟨a1, a2, a3', lenR_cg (re := fun _ => 0) (re' := fun _ => 0) ⟨rfl, fun _ _ _ => rfl, fun _ _ => ⟨rfl, rfl, rfl⟩, fun _ _ _ => rfl, fun m k m0 m1 k0 k1 => (e m k m0 m1 k0 k1).symm⟩ (aQo_wf hW a3) (fun _ _ => rfl) a4, fun q a hq m k m0 m1 k0 k1 hp => ?_⟩
    rw [e m k m0 m1 k0 k1]
    refine a5 q a hq m k m0 m1 k0 k1 (fun m' k' p r s t => ?_)
    rw [← e m' k' p (by omega) r s]
    exact hp m' k' p r s t
theorem Sol_of {st mc du rd g : Int → Int} {u : Int} {C : Int → Int → Prop} (tot : ∀ x y, vOp st x → vOp st y → x ≠ y → mc x = mc y → C x y ∨ C y x) (H : IsHead (vOp st) (pA mc C) du rd g) (L1 : ∀ o, vOp st o → g o + du o ≤ u) : Sol st mc du rd u C := by
  obtain ⟨t, T, ht⟩ := tail_bd vOp_16 H L1
  refine ⟨tot, g, t, H, T, ht, fun x y vx vy ne hm w => ?_⟩
  rcases tot x y vx vy ne hm with c | c
  · have := (H y vy).2.1 x vx (Or.inr ⟨hm, c⟩)
    have := ht y vy
    omega
  · exact c
/-- by their numbers operations may always stand -/
theorem sol_lt {st mc du rd : Int → Int} {b : Int} (b0 : 0 ≤ b) (hd : ∀ o, vOp st o → 1 ≤ du o ∧ du o ≤ 20 ∧ 0 ≤ rd o ∧ rd o ≤ b) : Sol st mc du rd (b + 320) (fun o' o => o' < o) := by
  obtain ⟨g, a, c⟩ := sol_ex (V := vOp st) (F := hOp (vOp st) (pA mc (fun o' o => o' < o)) du rd) (B := fun o => b + 20 * o) (h := fun _ => 0) vOp_16 (hOp_m vOp_16) (fun t ht o v => by
    have h1 := hd o v
    have v0 := v.1
    rcases (hOp_is (P := pA mc (fun o' o => o' < o)) (d := du) (r := rd) vOp_16 t o).2.2 with q | ⟨k, vk, p, q⟩
    · rw [q]
      show _ ≤ b + 20 * o
      omega
    · have h2 := ht k vk
      have h3 := hd k vk
      have lt : k < o := by
        rcases p with p | p
        · omega
        · exact p.2
      rw [q]
      show _ ≤ b + 20 * o
      omega) (fun o v => Int.le_trans (hd o v).2.2.1 (hOp_is vOp_16 _ o).1) (fun o v => by
    have := v.1
    show (0 : Int) ≤ b + 20 * o
    omega)
  refine Sol_of (g := g) (fun x y _ _ ne _ => by omega) ((hOp_sol vOp_16).mp a) (fun o v => ?_)
  have h1 := c o v
  have h2 := hd o v
  have := v.2.1
  have h1 : g o ≤ b + 20 * o := h1
  omega
/-! the class's best plan -/
def pBe (t a : Nat) (x : Int) : Prop := pL 2 t a x ∨ pF 0 t a x
/-- of the class's state the best plan -/
def sBst (σ : Mem) (le : Int) (f : Int → Int) : Prop := bstS (σ 10 0) (σ 11 0) (σ 12 0) (σ 8 0) (σ 13 0) (σ 14 0) le f
/-- what leastPlan knows -/
def KSc (σ : Mem) : Prop := σ 4 0 1 = 0 ∨ (sBst σ (σ 4 0 2) (σ 27 0) ∧ σ 4 0 2 ≠ 1000000)
theorem Lod_sol {σ σ1 : Mem} {n : Nat} (hw : sWF σ 0) (hL : Lod n 0 σ σ1) : Sol (σ1 15 n) (σ1 16 n) (σ1 17 n) (σ1 18 n) 370 (fun o' o => o' < o) ∧ sbA (σ1 15 n) (σ1 16 n) (σ1 20 n) (fun o' o => o' < o) := by
  obtain ⟨-, l2, l3, l4, l5, l6, l7⟩ := hL
  have eV : vOp (σ1 15 n) = vOp (σ 10 0) := funext fun o => propext (vOp_cg l5 o)
  refine ⟨sol_lt (b := 50) (by omega) (fun o v => ?_), fun o' o v' v _ hb => ?_⟩
  · rw [eV] at v
    have := sWF_op hw v
    rw [(l6 o v).2.1, (l6 o v).2.2]
    omega
  · rw [l7 o v.1 v.2.1] at hb
    exact absurd hb (bit_0 (vOp_j v').1 (vOp_j v').2.1)
theorem FdR_bst {σ σ1 σ2 : Mem} (hw : sWF σ 0) (hL : Lod 2 0 σ σ1) (hF : FdR σ1 σ2 0) : sBst σ (σ2 4 0 2) (σ2 27 0) ∧ σ2 4 0 2 ≠ 1000000 := by
  obtain ⟨-, l2, l3, l4, l5, l6, l7⟩ := hL
  obtain ⟨f1, f2, f3, f4, f5, f6⟩ := hF
  have e15 : σ2 15 2 = σ1 15 2 := pF.f f1 15 (by omega) 2
  have e16 : σ2 16 2 = σ1 16 2 := pF.f f1 16 (by omega) 2
  have e17 : σ2 17 2 = σ1 17 2 := pF.f f1 17 (by omega) 2
  have e18 : σ2 18 2 = σ1 18 2 := pF.f f1 18 (by omega) 2
  have hS : SQ (σ1 15 2) (σ1 16 2) (σ1 17 2) (σ1 18 2) (σ2 19 2) (σ1 20 2) (σ2 28 0) (σ2 30 0) (σ2 27 0) (σ2 4 0 2) 16 := by
    have := f6
    unfold sSQ at this
    rw [show 0 + 2 = 2 from rfl, e15, e16, e17, e18] at this
    exact this
  have ag : AG (σ 5 0 0) (σ 5 0 0) (σ 10 0) (σ1 15 2) (σ 11 0) (σ1 16 2) (σ 12 0) (σ1 17 2) (fun _ => 0) (fun _ => 0) (σ 13 0) (σ 13 0) (σ 14 0) (σ 14 0) := ⟨rfl, fun j a b => (l5 j a b).symm, fun o v => ⟨(l6 o v).1.symm, (l6 o v).2.1.symm, rfl⟩, fun _ _ _ => rfl, fun _ _ _ _ _ _ => rfl⟩
  have hW1 := ag.wf hw.1
  have nob : ∀ (q : Int → Int) C, sbA (σ1 15 2) (σ1 16 2) (σ1 20 2) C := fun q C o' o v' v _ hb => by
    rw [l7 o v.1 v.2.1] at hb
    exact absurd hb (bit_0 (vOp_j v').1 (vOp_j v').2.1)
  have hl := hW1.2.2.2.2.1
  obtain ⟨b1, b2⟩ := SQ_bst (fs := fun _ => 0) hW1 f3 (by omega) (fun m a b => (hl m a b).1) hS (fun v v0 v1 C hC hs => f5 v v0 v1 C ⟨hC, hs⟩) (fun q _ => nob q _) (fun q a _ => a)
  refine ⟨bstS_G.mpr (bstG_cg ag.sy hW1 (fun o v => ?_) (fun m a b => (hl m a b).1) b1), b2⟩
  exact (l6 o ((vOp_cg l5 o).mp v)).2.2
