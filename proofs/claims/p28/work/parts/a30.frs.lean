/-! what a limit forces, by the routes alone -/
theorem sm_rem {Q : Int → Prop} : ∀ (m : Nat) {y : Int}, 0 ≤ y → y < m → Q y → sm (fun x => b2i (Q x)) m = sm (fun x => b2i (Q x ∧ x ≠ y)) m + 1 := by
  intro m
  induction m with
  | zero => intro y a b; omega
  | succ m ih =>
    intro y y0 y1 q
    show sm (fun x => b2i (Q x)) m + b2i (Q m) = sm (fun x => b2i (Q x ∧ x ≠ y)) m + b2i (Q m ∧ (m : Int) ≠ y) + 1
    by_cases c : y = m
    · subst c
      have e : sm (fun x => b2i (Q x ∧ x ≠ (m : Int))) m = sm (fun x => b2i (Q x)) m := sm_cg m (fun i hi => by
        have hne : (i : Int) ≠ m := by omega
        by_cases z : Q i
        · rw [b2i_1 z, b2i_1 ⟨z, hne⟩]
        · rw [b2i_0 z, b2i_0 (fun w => z w.1)])
      rw [e, b2i_1 q, b2i_0 (fun w => w.2 rfl)]
      omega
    · have h := ih y0 (by omega) q
      have e : b2i (Q m ∧ (m : Int) ≠ y) = b2i (Q m) := by
        by_cases z : Q m
        · rw [b2i_1 z, b2i_1 ⟨z, fun w => c w.symm⟩]
        · rw [b2i_0 z, b2i_0 (fun w => z w.1)]
      rw [e]
      omega
theorem sm_inj {P : Int → Prop} (f : Int → Int) (m : Nat) : ∀ (n : Nat) (Q : Int → Prop), (∀ x : Int, 0 ≤ x → x < n → P x → 0 ≤ f x ∧ f x < m ∧ Q (f x)) → (∀ x x' : Int, 0 ≤ x → x < n → 0 ≤ x' → x' < n → P x → P x' → f x = f x' → x = x') → sm (fun x => b2i (P x)) n ≤ sm (fun x => b2i (Q x)) m := by
  intro n
  induction n with
  | zero => intro Q _ _; exact (sm_r (f := fun x => b2i (Q x)) (b := 1) (fun i => b2i_r _) m).1
  | succ n ih =>
    intro Q h1 h2
    show sm (fun x => b2i (P x)) n + b2i (P n) ≤ _
    by_cases c : P n
    · obtain ⟨a, b, q⟩ := h1 n (by omega) (by omega) c
      have := ih (fun y => Q y ∧ y ≠ f n) (fun x x0 x1 p => by
        obtain ⟨a', b', q'⟩ := h1 x x0 (by omega) p
        refine ⟨a', b', q', fun z => ?_⟩
        have := h2 x n x0 (by omega) (by omega) (by omega) p c z
        omega) (fun x x' x0 x1 y0 y1 => h2 x x' x0 (by omega) y0 (by omega))
      rw [sm_rem m a b q, b2i_1 c]
      omega
    · have := ih Q (fun x x0 x1 => h1 x x0 (by omega)) (fun x x' x0 x1 y0 y1 => h2 x x' x0 (by omega) y0 (by omega))
      rw [b2i_0 c]
      omega
theorem sm_add (f : Int → Int) (a : Nat) : ∀ k : Nat, sm f (a + k) = sm f a + sm (fun x => f (a + x)) k := by
  intro k
  induction k with
  | zero => simp [sm]
  | succ k ih =>
    show sm f (a + k) + f ((a + k : Nat) : Int) = sm f a + (sm (fun x => f (a + x)) k + f (a + k))
    rw [ih, show ((a + k : Nat) : Int) = (a : Int) + k by omega]
    omega
theorem sm_flat16 (g : Int → Int → Int) : ∀ n : Nat, sm (fun i => sm (g i) 16) n = sm (fun x => g (x / 16) (x % 16)) (n * 16) := by
  intro n
  induction n with
  | zero => rfl
  | succ n ih =>
    rw [show (n + 1) * 16 = n * 16 + 16 by omega, sm_add _ (n * 16) 16, ← ih]
    show sm (fun i => sm (g i) 16) n + sm (g n) 16 = _
    congr 1
    exact sm_cg 16 (fun i hi => by
      show g n i = g ((((n * 16 : Nat) : Int) + i) / 16) ((((n * 16 : Nat) : Int) + i) % 16)
      rw [show (((n * 16 : Nat) : Int) + i) / 16 = n by omega, show (((n * 16 : Nat) : Int) + i) % 16 = i by omega])
theorem sm_flat4 (g : Int → Int → Int) : ∀ n : Nat, sm (fun i => sm (g i) 4) n = sm (fun x => g (x / 4) (x % 4)) (n * 4) := by
  intro n
  induction n with
  | zero => rfl
  | succ n ih =>
    rw [show (n + 1) * 4 = n * 4 + 4 by omega, sm_add _ (n * 4) 4, ← ih]
    show sm (fun i => sm (g i) 4) n + sm (g n) 4 = _
    congr 1
    exact sm_cg 4 (fun i hi => by
      show g n i = g ((((n * 4 : Nat) : Int) + i) / 4) ((((n * 4 : Nat) : Int) + i) % 4)
      rw [show (((n * 4 : Nat) : Int) + i) / 4 = n by omega, show (((n * 4 : Nat) : Int) + i) % 4 = i by omega])
def prF (st mc : Int → Int) (C : Int → Int → Prop) (a b : Int) : Prop := vOp st a ∧ vOp st b ∧ a ≠ b ∧ mc a = mc b ∧ C a b
def LC (st mc du re : Int → Int) (u : Int) (C : Int → Int → Prop) : Prop := Clo st mc du (fun o => re (o / 4)) u C ∧ ∀ C', Clo st mc du (fun o => re (o / 4)) u C' → ∀ a b, prF st mc C a b → C' a b
noncomputable def cntP (st mc : Int → Int) (C : Int → Int → Prop) : Int := sm (fun b => sm (fun a => b2i (prF st mc C a b)) 16) 16
/-- what a call of forced answers -/
def frS (st mc du re : Int → Int) (u r : Int) : Prop := (r = -6 ∧ ∀ C, ¬ Clo st mc du (fun o => re (o / 4)) u C) ∨ ∃ C, LC st mc du re u C ∧ r = cntP st mc C
/-- what a call of isForced answers: whether a is forced ahead of b -/
def ifS (st mc du re : Int → Int) (u a b r : Int) : Prop := (r = -6 ∧ ∀ C, ¬ Clo st mc du (fun o => re (o / 4)) u C) ∨ ∃ C, LC st mc du re u C ∧ ((r = 1 ∧ C a b) ∨ (r = 0 ∧ ¬ C a b))
theorem LC_un {st mc du re : Int → Int} {u : Int} {C C' : Int → Int → Prop} (h : LC st mc du re u C) (h' : LC st mc du re u C') (a b : Int) : prF st mc C a b ↔ prF st mc C' a b := ⟨fun q => ⟨q.1, q.2.1, q.2.2.1, q.2.2.2.1, h.2 C' h'.1 a b q⟩, fun q => ⟨q.1, q.2.1, q.2.2.1, q.2.2.2.1, h'.2 C h.1 a b q⟩⟩
theorem cntP_cg {st st' mc mc' : Int → Int} {C C' : Int → Int → Prop} (h : ∀ a b, prF st mc C a b ↔ prF st' mc' C' a b) : cntP st mc C = cntP st' mc' C' := by
  have e : prF st mc C = prF st' mc' C' := funext fun a => funext fun b => propext (h a b)
  unfold cntP
  rw [e]
theorem cntP_r (st mc : Int → Int) (C : Int → Int → Prop) : 0 ≤ cntP st mc C ∧ cntP st mc C ≤ 256 := by
  have h := sm_r (f := fun b => sm (fun a => b2i (prF st mc C a b)) 16) (b := 16) (fun i => by
    have := sm_r (f := fun a => b2i (prF st mc C a i)) (b := 1) (fun k => b2i_r _) 16
    omega) 16
  unfold cntP
  omega
theorem frS_un {st mc du re : Int → Int} {u r r' : Int} (h : frS st mc du re u r) (h' : frS st mc du re u r') : r = r' := by
  rcases h with ⟨a, b⟩ | ⟨C, a, b⟩ <;> rcases h' with ⟨a', b'⟩ | ⟨C', a', b'⟩
  · omega
  · exact absurd a'.1 (b C')
  · exact absurd a.1 (b' C)
  · rw [b, b']
    exact cntP_cg (LC_un a a')
theorem ifS_un {st mc du re : Int → Int} {u a b r r' : Int} (va : vOp st a) (vb : vOp st b) (ne : a ≠ b) (hm : mc a = mc b) (h : ifS st mc du re u a b r) (h' : ifS st mc du re u a b r') : r = r' := by
  rcases h with ⟨x, y⟩ | ⟨C, x, y⟩ <;> rcases h' with ⟨x', y'⟩ | ⟨C', x', y'⟩
  · omega
  · exact absurd x'.1 (y C')
  · exact absurd x.1 (y' C)
  · have e := LC_un x x' a b
    have e' : C a b ↔ C' a b := ⟨fun q => (e.mp ⟨va, vb, ne, hm, q⟩).2.2.2.2, fun q => (e.mpr ⟨va, vb, ne, hm, q⟩).2.2.2.2⟩
    rcases y with ⟨y, z⟩ | ⟨y, z⟩ <;> rcases y' with ⟨y', z'⟩ | ⟨y', z'⟩
    · omega
    · exact absurd (e'.mp z) z'
    · exact absurd (e'.mpr z') z
    · omega
theorem Clo_cg {st st' mc mc' du du' rd rd' : Int → Int} {u : Int} {C : Int → Int → Prop} (hs : ∀ j, 0 ≤ j → j < 4 → st j = st' j) (ho : ∀ o, vOp st o → mc o = mc' o ∧ du o = du' o ∧ rd o = rd' o) : Clo st mc du rd u C ↔ Clo st' mc' du' rd' u C := by
  have eV : vOp st' = vOp st := funext fun o => propext (vOp_cg (fun j a b => (hs j a b).symm) o)
  have hP : ∀ o' o, vOp st o' → vOp st o → (pA mc C o' o ↔ pA mc' C o' o) := fun o' o v' v => by
    unfold pA
    rw [(ho o' v').1, (ho o v).1]
  unfold Clo
  rw [eV]
  constructor
  · rintro ⟨h, t, H, T, hu, hc⟩
    refine ⟨h, t, (IsHead_cg hP (fun o v => (ho o v).2.1) (fun o v => (ho o v).2.2)).mp H, (IsTail_cg hP (fun o v => (ho o v).2.1)).mp T, fun o v => ?_, fun x y vx vy ne hm w => ?_⟩
    · rw [← (ho o v).2.1]
      exact hu o v
    · rw [← (ho x vx).1, ← (ho y vy).1] at hm
      rw [← (ho x vx).2.1, ← (ho y vy).2.1] at w
      exact hc x y vx vy ne hm w
  · rintro ⟨h, t, H, T, hu, hc⟩
    refine ⟨h, t, (IsHead_cg hP (fun o v => (ho o v).2.1) (fun o v => (ho o v).2.2)).mpr H, (IsTail_cg hP (fun o v => (ho o v).2.1)).mpr T, fun o v => ?_, fun x y vx vy ne hm w => ?_⟩
    · rw [(ho o v).2.1]
      exact hu o v
    · rw [(ho x vx).1, (ho y vy).1] at hm
      rw [(ho x vx).2.1, (ho y vy).2.1] at w
      exact hc x y vx vy ne hm w
theorem prF_cg {st st' mc mc' : Int → Int} {C : Int → Int → Prop} (hs : ∀ j, 0 ≤ j → j < 4 → st j = st' j) (ho : ∀ o, vOp st o → mc o = mc' o) (a b : Int) : prF st mc C a b ↔ prF st' mc' C a b := by
  have eV : vOp st' = vOp st := funext fun o => propext (vOp_cg (fun j a b => (hs j a b).symm) o)
  unfold prF
  rw [eV]
  constructor
  · rintro ⟨va, vb, ne, hm, hc⟩
    exact ⟨va, vb, ne, by rw [← ho a va, ← ho b vb]; exact hm, hc⟩
  · rintro ⟨va, vb, ne, hm, hc⟩
    exact ⟨va, vb, ne, by rw [ho a va, ho b vb]; exact hm, hc⟩
theorem LC_cg {st st' mc mc' du du' re re' : Int → Int} {u : Int} {C : Int → Int → Prop} (hs : ∀ j, 0 ≤ j → j < 4 → st j = st' j) (ho : ∀ o, vOp st o → mc o = mc' o ∧ du o = du' o ∧ re (o / 4) = re' (o / 4)) : LC st mc du re u C ↔ LC st' mc' du' re' u C := by
  have hc : ∀ D, Clo st mc du (fun o => re (o / 4)) u D ↔ Clo st' mc' du' (fun o => re' (o / 4)) u D := fun D => Clo_cg hs ho
  have hp := prF_cg (C := C) hs (fun o v => (ho o v).1)
  unfold LC
  rw [hc]
  exact ⟨fun q => ⟨q.1, fun D hD a b p => q.2 D ((hc D).mpr hD) a b ((hp a b).mpr p)⟩, fun q => ⟨q.1, fun D hD a b p => q.2 D ((hc D).mp hD) a b ((hp a b).mp p)⟩⟩
theorem AG.frS {J J' : Int} {st st' mc mc' du du' re re' ln ln' q q' : Int → Int} (h : AG J J' st st' mc mc' du du' re re' ln ln' q q') {u r : Int} (hf : frS st mc du re u r) : frS st' mc' du' re' u r := by
  rcases hf with ⟨a, b⟩ | ⟨C, a, b⟩
  · exact Or.inl ⟨a, fun C hC => b C ((Clo_cg h.2.1 h.2.2.1).mpr hC)⟩
  · exact Or.inr ⟨C, (LC_cg h.2.1 h.2.2.1).mp a, by rw [b]; exact cntP_cg (prF_cg h.2.1 (fun o v => (h.2.2.1 o v).1))⟩
theorem AG.ifS {J J' : Int} {st st' mc mc' du du' re re' ln ln' q q' : Int → Int} (h : AG J J' st st' mc mc' du du' re re' ln ln' q q') {u x y r : Int} (hf : ifS st mc du re u x y r) : ifS st' mc' du' re' u x y r := by
  rcases hf with ⟨a, b⟩ | ⟨C, a, b⟩
  · exact Or.inl ⟨a, fun C hC => b C ((Clo_cg h.2.1 h.2.2.1).mpr hC)⟩
  · exact Or.inr ⟨C, (LC_cg h.2.1 h.2.2.1).mp a, b⟩
/-- the class's count of decided pairs -/
theorem dp_cnt {σ : Mem} {n : Nat} (hB : nB σ n) (hA : nA σ n) : sm (dpR σ n) 16 = cntP (σ 15 n) (σ 16 n) (rA (σ 20 n)) := by
  obtain ⟨b1, b2, b3⟩ := id hB
  have e1 : sm (dpR σ n) 16 = sm (fun y => b2i (0 ≤ σ 19 n (y / 4) ∧ hasB (σ 20 n (σ 19 n (y / 4))) (y % 4))) 64 := sm_flat4 (dpC σ n) 16
  have e2 : cntP (σ 15 n) (σ 16 n) (rA (σ 20 n)) = sm (fun x => b2i (prF (σ 15 n) (σ 16 n) (rA (σ 20 n)) (x % 16) (x / 16))) 256 := sm_flat16 (fun b a => b2i (prF (σ 15 n) (σ 16 n) (rA (σ 20 n)) a b)) 16
  rw [e1, e2]
  have fw : ∀ y, 0 ≤ y → y < 64 → 0 ≤ σ 19 n (y / 4) → hasB (σ 20 n (σ 19 n (y / 4))) (y % 4) → ∀ b a, b = σ 19 n (y / 4) → a = σ 19 n (4 * (y / 4 / 4) + y % 4) → prF (σ 15 n) (σ 16 n) (rA (σ 20 n)) a b ∧ 4 * σ 16 n b + b / 4 = y / 4 ∧ a / 4 = y % 4 := by
    intro y y0 y1 h0 hb b a eb ea
    have hi := b3 (y / 4 / 4) (y / 4 % 4) (by omega) (by omega) (by omega) (by omega) (by rw [show 4 * (y / 4 / 4) + y / 4 % 4 = y / 4 by omega]; exact h0)
    rw [show 4 * (y / 4 / 4) + y / 4 % 4 = y / 4 by omega, ← eb] at hi
    rw [← eb] at hb
    have ha := (hA b hi.1).2.2 (y % 4) (by omega) (by omega) hb
    rw [hi.2.1] at ha
    have hj := b3 (y / 4 / 4) (y % 4) (by omega) (by omega) (by omega) (by omega) ha.2
    rw [← ea] at hj
    refine ⟨⟨hj.1, hi.1, fun z => ?_, by rw [hi.2.1, hj.2.1], ?_⟩, by omega, hj.2.2⟩
    · rw [z] at hj
      omega
    · unfold rA
      rw [hj.2.2]
      exact hb
  have bw : ∀ a b, prF (σ 15 n) (σ 16 n) (rA (σ 20 n)) a b → 0 ≤ a ∧ a < 16 ∧ 0 ≤ b ∧ b < 16 ∧ 0 ≤ σ 16 n b ∧ σ 16 n b < 4 ∧ σ 19 n (4 * σ 16 n b + b / 4) = b ∧ σ 19 n (4 * σ 16 n b + a / 4) = a ∧ hasB (σ 20 n b) (a / 4) := by
    rintro a b ⟨va, vb, -, hm, hc⟩
    have h1 := b2 a va
    have h2 := b2 b vb
    exact ⟨va.1, va.2.1, vb.1, vb.2.1, h2.1, h2.2.1, h2.2.2.2.2.2.2, by rw [← hm]; exact h1.2.2.2.2.2.2, hc⟩
  refine Int.le_antisymm (sm_inj (fun y => 16 * σ 19 n (y / 4) + σ 19 n (4 * (y / 4 / 4) + y % 4)) 256 64 _ (fun y y0 y1 p => ?_) (fun y y' y0 y1 z0 z1 p p' e => ?_)) (sm_inj (fun x => 4 * (4 * σ 16 n (x / 16) + x / 16 / 4) + x % 16 / 4) 64 256 _ (fun x x0 x1 p => ?_) (fun x x' x0 x1 z0 z1 p p' e => ?_))
  · obtain ⟨f1, -, -⟩ := fw y y0 y1 p.1 p.2 _ _ rfl rfl
    have ha := f1.1
    have hb := f1.2.1
    have a0 := ha.1
    have a1 := ha.2.1
    have c0 := hb.1
    have c1 := hb.2.1
    refine ⟨by omega, by omega, ?_⟩
    rw [show (16 * σ 19 n (y / 4) + σ 19 n (4 * (y / 4 / 4) + y % 4)) % 16 = σ 19 n (4 * (y / 4 / 4) + y % 4) by omega, show (16 * σ 19 n (y / 4) + σ 19 n (4 * (y / 4 / 4) + y % 4)) / 16 = σ 19 n (y / 4) by omega]
    exact f1
  · obtain ⟨f1, f2, f3⟩ := fw y y0 y1 p.1 p.2 _ _ rfl rfl
    obtain ⟨g1, g2, g3⟩ := fw y' z0 z1 p'.1 p'.2 _ _ rfl rfl
    have a0 := f1.1.1
    have a1 := f1.1.2.1
    have c0 := g1.1.1
    have c1 := g1.1.2.1
    have eb : σ 19 n (y / 4) = σ 19 n (y' / 4) := by omega
    have ea : σ 19 n (4 * (y / 4 / 4) + y % 4) = σ 19 n (4 * (y' / 4 / 4) + y' % 4) := by omega
    rw [eb] at f2
    rw [ea] at f3
    omega
  · obtain ⟨a0, a1, c0, c1, m0, m1, h1, h2, h3⟩ := bw _ _ p
    refine ⟨by omega, by omega, ?_⟩
    rw [show (4 * (4 * σ 16 n (x / 16) + x / 16 / 4) + x % 16 / 4) / 4 = 4 * σ 16 n (x / 16) + x / 16 / 4 by omega, show (4 * (4 * σ 16 n (x / 16) + x / 16 / 4) + x % 16 / 4) % 4 = x % 16 / 4 by omega, h1]
    exact ⟨c0, h3⟩
  · obtain ⟨a0, a1, c0, c1, m0, m1, h1, h2, h3⟩ := bw _ _ p
    obtain ⟨a0', a1', c0', c1', m0', m1', h1', h2', h3'⟩ := bw _ _ p'
    have em : σ 16 n (x / 16) = σ 16 n (x' / 16) := by omega
    have ej : x / 16 / 4 = x' / 16 / 4 := by omega
    have ek : x % 16 / 4 = x' % 16 / 4 := by omega
    rw [em, ej] at h1
    rw [em, ek] at h2
    omega
/-- the class's keeps: the least closed one -/
theorem KT_LC {σ σ1 σ2 : Mem} {u : Int} (hL : Lod 1 0 σ σ1) (hK : KT σ1 σ2 1 u) : LC (σ 10 0) (σ 11 0) (σ 12 0) (σ 8 0) u (rA (σ2 20 1)) ∧ sm (dpR σ2 1) 16 = cntP (σ 10 0) (σ 11 0) (rA (σ2 20 1)) := by
  obtain ⟨-, l2, l3, l4, l5, l6, l7⟩ := hL
  have hs : ∀ j, 0 ≤ j → j < 4 → σ 10 0 j = σ1 15 1 j := fun j a b => (l5 j a b).symm
  have eV : vOp (σ1 15 1) = vOp (σ 10 0) := funext fun o => propext (vOp_cg l5 o)
  have ho : ∀ o, vOp (σ 10 0) o → σ 11 0 o = σ1 16 1 o ∧ σ 12 0 o = σ1 17 1 o ∧ (fun o => σ 8 0 (o / 4)) o = σ1 18 1 o := fun o v => ⟨(l6 o v).1.symm, (l6 o v).2.1.symm, (l6 o v).2.2.symm⟩
  have B2 := KT_B hK l2
  have f := fun t ht => hK.1.f t 1 ht
  have e15 := f 15 (by rintro x q; unfold pK at q; omega)
  have e16 := f 16 (by rintro x q; unfold pK at q; omega)
  refine ⟨⟨(Clo_cg hs ho).mpr hK.2.2.2.2.2.2, fun C hC a b p => ?_⟩, ?_⟩
  · obtain ⟨va, vb, ne, hm, hc⟩ := p
    refine hK.2.2.2.1 C ((Clo_cg hs ho).mp hC) (fun o' o v' v _ hb => ?_) a b (by rw [eV]; exact va) (by rw [eV]; exact vb) (by rw [(l6 a va).1, (l6 b vb).1]; exact hm) hc
    rw [l7 o v.1 v.2.1] at hb
    exact absurd hb (bit_0 (vOp_j v').1 (vOp_j v').2.1)
  · rw [dp_cnt B2 hK.2.1, e15, e16]
    exact (cntP_cg (prF_cg hs (fun o v => (ho o v).1))).symm
theorem KF_no {σ σ1 : Mem} {u : Int} (hL : Lod 1 0 σ σ1) (hK : KF σ1 1 u) : ∀ C, ¬ Clo (σ 10 0) (σ 11 0) (σ 12 0) (fun o => σ 8 0 (o / 4)) u C := by
  obtain ⟨-, l2, l3, l4, l5, l6, l7⟩ := hL
  have hs : ∀ j, 0 ≤ j → j < 4 → σ 10 0 j = σ1 15 1 j := fun j a b => (l5 j a b).symm
  have ho : ∀ o, vOp (σ 10 0) o → σ 11 0 o = σ1 16 1 o ∧ σ 12 0 o = σ1 17 1 o ∧ (fun o => σ 8 0 (o / 4)) o = σ1 18 1 o := fun o v => ⟨(l6 o v).1.symm, (l6 o v).2.1.symm, (l6 o v).2.2.symm⟩
  intro C hC
  refine hK C ((Clo_cg hs ho).mp hC) (fun o' o v' v _ hb => ?_)
  rw [l7 o v.1 v.2.1] at hb
  exact absurd hb (bit_0 (vOp_j v').1 (vOp_j v').2.1)
