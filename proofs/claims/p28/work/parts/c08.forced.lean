/-! what limits force, in the law's words -/
theorem sm_swap (f : Int → Int → Int) (n : Nat) : ∀ m : Nat, sm (fun b => sm (fun a => f a b) n) m = sm (fun a => sm (fun b => f a b) m) n := by
  intro m
  induction m with
  | zero =>
    show (0 : Int) = sm (fun _ => 0) n
    have : ∀ k : Nat, sm (fun _ => 0) k = 0 := fun k => by
      induction k with
      | zero => rfl
      | succ k ih => show sm (fun _ => 0) k + 0 = 0; omega
    exact (this n).symm
  | succ m ih =>
    show sm (fun b => sm (fun a => f a b) n) m + sm (fun a => f a m) n = sm (fun a => sm (fun b => f a b) m + f a m) n
    rw [ih]
    have : ∀ (g h : Int → Int) (k : Nat), sm g k + sm h k = sm (fun a => g a + h a) k := fun g h k => by
      induction k with
      | zero => rfl
      | succ k ih => show (sm g k + g k) + (sm h k + h k) = sm (fun a => g a + h a) k + (g k + h k); omega
    exact this _ _ n
/-- what stands behind adds nothing -/
theorem sm_cut {f : Int → Int} {a n : Nat} (h : a ≤ n) (hz : ∀ i : Int, a ≤ i → i < n → f i = 0) : sm f n = sm f a := by
  induction n with
  | zero =>
    have : a = 0 := by omega
    rw [this]
  | succ n ih =>
    by_cases c : a = n + 1
    · rw [c]
    · show sm f n + f n = sm f a
      rw [ih (by omega) (fun i a b => hz i a (by omega)), hz n (by omega) (by omega)]
      omega
theorem Clo_up {st mc du rd : Int → Int} {u u' : Int} {A : Int → Int → Prop} (h : Clo st mc du rd u A) (hu : u ≤ u') : Clo st mc du rd u' A := by
  obtain ⟨g, t, H, T, a, b⟩ := h
  exact ⟨g, t, H, T, fun o v => by have := a o v; omega, fun x y vx vy ne hm hl => b x y vx vy ne hm (by omega)⟩
/-- the plan as it is keeps its length -/
theorem Sol_v {v : Vw} (hw : wWF v) (hp : pos v) {u : Int} (hu : LV v ≤ u) : Sol (v 10) (v 11) (v 12) (fun o => v 8 (o / 4)) u (Cqo (v 11) (v 13) (v 14)) := lenR_sol hw.1 (lenQ_R.mp (LV_lenQ hw hp)) hu
theorem fr_ex {v : Vw} (hw : wWF v) (hp : pos v) {u r : Int} (hu : LV v ≤ u) (h : frS (v 10) (v 11) (v 12) (v 8) u r) : ∃ C, LC (v 10) (v 11) (v 12) (v 8) u C ∧ r = cntP (v 10) (v 11) C := by
  rcases h with ⟨-, h⟩ | h
  · exact absurd (Sol_v hw hp hu).2 (h _)
  · exact h
theorem LC_up {v : Vw} {u u' : Int} {C C' : Int → Int → Prop} (h : LC (v 10) (v 11) (v 12) (v 8) u C) (h' : LC (v 10) (v 11) (v 12) (v 8) u' C') (hu : u ≤ u') : ∀ a b, prF (v 10) (v 11) C' a b → prF (v 10) (v 11) C a b := fun a b q => ⟨q.1, q.2.1, q.2.2.1, q.2.2.2.1, h'.2 C (Clo_up h.1 hu) a b q⟩
theorem cnt_up {v : Vw} {u u' : Int} {C C' : Int → Int → Prop} (h : LC (v 10) (v 11) (v 12) (v 8) u C) (h' : LC (v 10) (v 11) (v 12) (v 8) u' C') (hu : u ≤ u') : cntP (v 10) (v 11) C' ≤ cntP (v 10) (v 11) C := by
  unfold cntP
  exact sm_le _ (fun i _ => sm_le _ (fun j _ => b2i_le (LC_up h h' hu j i)))
/-- heads and tails by the routes alone -/
noncomputable def hR0 (v : Vw) (o : Int) : Int := v 8 (o / 4) + wF (v 12) (4 * (o / 4)) (o % 4)
noncomputable def tR0 (v : Vw) (o : Int) : Int := wF (v 12) (o + 1) (v 10 (o / 4) - o % 4 - 1)
theorem wF_b {f : Int → Int} {b n : Int} (n0 : 0 ≤ n) (n4 : n ≤ 4) (h : ∀ k, 0 ≤ k → k < n → 0 ≤ f (b + k) ∧ f (b + k) ≤ 20) : 0 ≤ wF f b n ∧ wF f b n ≤ 20 * n := by
  have key : ∀ k : Nat, (k : Int) ≤ n → 0 ≤ wF f b k ∧ wF f b k ≤ 20 * k := by
    intro k
    induction k with
    | zero => intro _; rw [show ((0 : Nat) : Int) = 0 from rfl, wF_0]; omega
    | succ k ih =>
      intro hk
      have a := ih (by omega)
      have c := h k (by omega) (by omega)
      rw [show ((k + 1 : Nat) : Int) = (k : Int) + 1 from by omega, wF_s f b k (by omega) (by omega)]
      omega
  have := key n.toNat (by omega)
  rw [Int.toNat_of_nonneg n0] at this
  exact this
theorem rt_w {v : Vw} (hw : wWF v) {j s : Int} (j0 : 0 ≤ j) (j1 : j < 4) (s0 : 0 ≤ s) (s1 : s < v 10 j) : 1 ≤ v 12 (4 * j + s) ∧ v 12 (4 * j + s) ≤ 20 := by
  have := wWF_op hw (vOp_i j0 j1 s0 s1 (st_w hw j0 j1).2.1)
  exact ⟨this.2.2.1, this.2.2.2.1⟩
theorem hR0_is {v : Vw} (hw : wWF v) : IsHead (vOp (v 10)) (pA (v 11) (fun _ _ => False)) (v 12) (fun o => v 8 (o / 4)) (hR0 v) ∧ IsTail (vOp (v 10)) (pA (v 11) (fun _ _ => False)) (v 12) (tR0 v) ∧ ∀ o, vOp (v 10) o → 0 ≤ hR0 v o ∧ hR0 v o ≤ 110 ∧ 0 ≤ tR0 v o ∧ tR0 v o ≤ 60 := by
  have B : ∀ o, vOp (v 10) o → (0 ≤ wF (v 12) (4 * (o / 4)) (o % 4) ∧ wF (v 12) (4 * (o / 4)) (o % 4) ≤ 60) ∧ 0 ≤ tR0 v o ∧ tR0 v o ≤ 60 := fun o vo => by
    have j := vOp_j vo
    have s4 := st_w hw j.1 j.2.1
    have c := vo.2.2
    have a := wF_b (f := v 12) (b := 4 * (o / 4)) (n := o % 4) j.2.2.1 (by omega) (fun k k0 k1 => by
      have := rt_w hw j.1 j.2.1 k0 (show k < v 10 (o / 4) by omega)
      omega)
    have b := wF_b (f := v 12) (b := o + 1) (n := v 10 (o / 4) - o % 4 - 1) (by omega) (by omega) (fun k k0 k1 => by
      have := rt_w hw j.1 j.2.1 (show 0 ≤ o % 4 + 1 + k by omega) (show o % 4 + 1 + k < v 10 (o / 4) by omega)
      rw [show 4 * (o / 4) + (o % 4 + 1 + k) = o + 1 + k by omega] at this
      omega)
    unfold tR0
    omega
  have N : ∀ o, vOp (v 10) o → o % 4 ≠ 0 → hR0 v o = hR0 v (o - 1) + v 12 (o - 1) ∧ tR0 v (o - 1) = v 12 o + tR0 v o := fun o vo z => by
    have j := vOp_j vo
    have s4 := st_w hw j.1 j.2.1
    have c := vo.2.2
    unfold hR0 tR0
    rw [show (o - 1) / 4 = o / 4 by omega, show (o - 1) % 4 = o % 4 - 1 by omega]
    have a := wF_s (v 12) (4 * (o / 4)) (o % 4 - 1) (by omega) (by omega)
    rw [show o % 4 - 1 + 1 = o % 4 by omega, show 4 * (o / 4) + (o % 4 - 1) = o - 1 by omega] at a
    have b := wF_f (v 12) o (v 10 (o / 4) - o % 4 - 1) (by omega) (by omega)
    rw [show o - 1 + 1 = o by omega, show v 10 (o / 4) - (o % 4 - 1) - 1 = v 10 (o / 4) - o % 4 - 1 + 1 by omega, b]
    omega
  refine ⟨fun o vo => ⟨?_, fun o' v' p => ?_, ?_⟩, fun o vo => ⟨(B o vo).2.1, fun o' v' p => ?_, ?_⟩, fun o vo => ?_⟩
  · have := (B o vo).1
    unfold hR0
    dsimp only
    omega
  · rcases p with ⟨a, b⟩ | ⟨_, a⟩
    · have := (N o vo a).1
      rw [b]
      omega
    · exact a.elim
  · by_cases z : o % 4 = 0
    · refine Or.inl ?_
      unfold hR0
      dsimp only
      rw [z, wF_0]
      omega
    · exact Or.inr ⟨o - 1, rt_b hw vo z, Or.inl ⟨z, rfl⟩, (N o vo z).1⟩
  · rcases p with ⟨a, b⟩ | ⟨_, a⟩
    · have := (N o' v' a).2
      rw [← b] at this
      omega
    · exact a.elim
  · have j := vOp_j vo
    have s4 := st_w hw j.1 j.2.1
    have c := vo.2.2
    by_cases z : o % 4 + 1 < v 10 (o / 4)
    · have vs : vOp (v 10) (o + 1) := rt_v hw.1 vo z
      refine Or.inr ⟨o + 1, vs, Or.inl ⟨by omega, by omega⟩, ?_⟩
      have := (N (o + 1) vs (by omega)).2
      rw [show o + 1 - 1 = o by omega] at this
      exact this
    · refine Or.inl ?_
      unfold tR0
      rw [show v 10 (o / 4) - o % 4 - 1 = 0 by omega, wF_0]
  · have a := B o vo
    have d := wWF_op hw vo
    unfold hR0
    omega
theorem fr_500 {v : Vw} (hw : wWF v) {C : Int → Int → Prop} (h : LC (v 10) (v 11) (v 12) (v 8) 500 C) : cntP (v 10) (v 11) C = 0 := by
  obtain ⟨H, T, B⟩ := hR0_is hw
  have E : Clo (v 10) (v 11) (v 12) (fun o => v 8 (o / 4)) 500 (fun _ _ => False) := ⟨hR0 v, tR0 v, H, T, fun o vo => by
    have := B o vo
    have := wWF_op hw vo
    omega, fun x y vx vy _ _ hl => by
    have := B x vx
    have := B y vy
    have := wWF_op hw vx
    have := wWF_op hw vy
    omega⟩
  have no : ∀ a b, ¬ prF (v 10) (v 11) C a b := fun a b q => h.2 _ E a b q
  unfold cntP
  have z : ∀ (f : Int → Int) (n : Nat), (∀ i : Nat, i < n → f i = 0) → sm f n = 0 := fun f n hz => by
    induction n with
    | zero => rfl
    | succ n ih =>
      show sm f n + f n = 0
      rw [ih (fun i hi => hz i (by omega)), hz n (by omega)]
      rfl
  exact z _ 16 (fun i _ => z _ 16 (fun k _ => b2i_0 (no k i)))
/-- whether x is forced ahead of y -/
theorem if_s {v : Vw} (hw : wWF v) (hp : pos v) {u x y r : Int} {C : Int → Int → Prop} (hu : LV v ≤ u) (hC : LC (v 10) (v 11) (v 12) (v 8) u C) (vx : vOp (v 10) x) (vy : vOp (v 10) y) (ne : x ≠ y) (hm : v 11 x = v 11 y) (h : ifS (v 10) (v 11) (v 12) (v 8) u x y r) : r = b2i (prF (v 10) (v 11) C x y) := by
  rcases h with ⟨-, h⟩ | ⟨C', h1, h2⟩
  · exact absurd (Sol_v hw hp hu).2 (h _)
  · have e := LC_un h1 hC x y
    rcases h2 with ⟨q, c⟩ | ⟨q, c⟩
    · rw [q, b2i_1 (e.mp ⟨vx, vy, ne, hm, c⟩)]
    · rw [q, b2i_0 (fun z => c (e.mpr z).2.2.2.2)]
theorem if_pl {v : Vw} (hw : wWF v) (hp : pos v) {u x y : Int} {C : Int → Int → Prop} (hu : LV v ≤ u) (hC : LC (v 10) (v 11) (v 12) (v 8) u C) (h : prF (v 10) (v 11) C x y) : plo (v 11) (v 13) (v 14) x < plo (v 11) (v 13) (v 14) y := hC.2 _ (Sol_v hw hp hu).2 x y h
/-- pairs counted so far -/
noncomputable def fX (v : Vw) (C : Int → Int → Prop) (x y : Int) : Int := b2i (prF (v 10) (v 11) C x y)
noncomputable def fR (v : Vw) (C : Int → Int → Prop) (x : Int) : Int := sm (fX v C x) 16
theorem fX_cnt (v : Vw) (C : Int → Int → Prop) : cntP (v 10) (v 11) C = sm (fR v C) 16 := sm_swap (fun a b => b2i (prF (v 10) (v 11) C a b)) 16 16
theorem fX_r (v : Vw) (C : Int → Int → Prop) (x y : Int) : 0 ≤ fX v C x y ∧ fX v C x y ≤ 1 := b2i_r _
theorem fX_n {v : Vw} {C : Int → Int → Prop} {x y : Int} (h : ¬ (vOp (v 10) x ∧ vOp (v 10) y ∧ x ≠ y ∧ v 11 x = v 11 y)) : fX v C x y = 0 := b2i_0 (fun q => h ⟨q.1, q.2.1, q.2.2.1, q.2.2.2.1⟩)
theorem fR_J {v : Vw} (hw : wWF v) (C : Int → Int → Prop) (x : Int) : sm (fX v C x) (4 * v 5 0).toNat = fR v C x := by
  have J4 := hw.1.1
  refine (sm_cut (by omega) (fun i a b => fX_n (fun q => ?_))).symm
  have := wWF_j hw q.2.1
  omega
theorem fR_JJ {v : Vw} (hw : wWF v) (C : Int → Int → Prop) : sm (fR v C) (4 * v 5 0).toNat = cntP (v 10) (v 11) C := by
  have J4 := hw.1.1
  rw [fX_cnt]
  refine (sm_cut (by omega) (fun i a b => ?_)).symm
  have z : ∀ y, fX v C i y = 0 := fun y => fX_n (fun q => by
    have := wWF_j hw q.1
    omega)
  have e : fX v C i = fun _ => 0 := funext z
  show sm (fX v C i) 16 = 0
  rw [e]
  rfl
theorem fR_r (v : Vw) (C : Int → Int → Prop) (x : Int) : 0 ≤ fR v C x ∧ fR v C x ≤ 16 := by
  have := sm_r (f := fX v C x) (b := 1) (fun i => fX_r v C x i) 16
  unfold fR
  omega
