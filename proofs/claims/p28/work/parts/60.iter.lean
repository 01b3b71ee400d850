/-! going over all operations until nothing changes -/
def MonoF (V : Int → Prop) (F : (Int → Int) → Int → Int) : Prop := ∀ h h' : Int → Int, (∀ o, V o → h o ≤ h' o) → ∀ o, V o → F h o ≤ F h' o
def SolF (V : Int → Prop) (F : (Int → Int) → Int → Int) (hs : Int → Int) : Prop := ∀ o, V o → hs o = F hs o
/-- a solution's number at o depends on lower ones alone -/
def DepF (V : Int → Prop) (F : (Int → Int) → Int → Int) : Prop := ∀ hs : Int → Int, SolF V F hs → (∀ o, V o → 0 ≤ hs o) ∧ ∀ h : Int → Int, (∀ o, V o → h o ≤ hs o) → ∀ o, V o → (∀ o', V o' → hs o' < hs o → h o' = hs o') → F h o = hs o
def PreF (V : Int → Prop) (F : (Int → Int) → Int → Int) (h : Int → Int) : Prop := (∀ o, V o → h o ≤ F h o) ∧ ∀ hs, SolF V F hs → ∀ o, V o → h o ≤ hs o
/-- a round: h0 at its start, h now, D what it has gone over, mo whether something changed -/
def CI (V : Int → Prop) (F : (Int → Int) → Int → Int) (h0 h : Int → Int) (D : Int → Prop) (mo : Int) : Prop := PreF V F h ∧ (∀ o, V o → h0 o ≤ h o) ∧ (∀ hs, SolF V F hs → ∀ o, V o → D o → (∀ o', V o' → hs o' < hs o → h0 o' = hs o') → h o = hs o) ∧ (mo = 0 ∨ mo = 1) ∧ (mo = 0 → (∀ o, V o → h o = h0 o) ∧ ∀ o, V o → D o → F h o ≤ h o) ∧ (∀ hs, SolF V F hs → (∀ o, V o → h0 o = hs o) → mo = 0)
theorem CI_0 {V : Int → Prop} {F : (Int → Int) → Int → Int} {h0 : Int → Int} (h : PreF V F h0) : CI V F h0 h0 (fun _ => False) 0 := ⟨h, fun _ _ => Int.le_refl _, fun _ _ _ _ d => d.elim, Or.inl rfl, fun _ => ⟨fun _ _ => rfl, fun _ _ d => d.elim⟩, fun _ _ _ => rfl⟩
theorem CI_D {V : Int → Prop} {F : (Int → Int) → Int → Int} {h0 h : Int → Int} {D D' : Int → Prop} {mo : Int} (hc : CI V F h0 h D mo) (hD : ∀ o, V o → D' o → D o) : CI V F h0 h D' mo := ⟨hc.1, hc.2.1, fun hs a o v d => hc.2.2.1 hs a o v (hD o v d), hc.2.2.2.1, fun q => ⟨(hc.2.2.2.2.1 q).1, fun o v d => (hc.2.2.2.2.1 q).2 o v (hD o v d)⟩, hc.2.2.2.2.2⟩
theorem PreF_cg {V : Int → Prop} {F : (Int → Int) → Int → Int} (hM : MonoF V F) {h h' : Int → Int} (hp : PreF V F h) (e : ∀ o, V o → h' o = h o) : PreF V F h' := by
  have hF : ∀ o, V o → F h' o = F h o := fun o v => Int.le_antisymm (hM h' h (fun o v => by rw [e o v]; exact Int.le_refl _) o v) (hM h h' (fun o v => by rw [e o v]; exact Int.le_refl _) o v)
  exact ⟨fun o v => by rw [e o v, hF o v]; exact hp.1 o v, fun hs a o v => by rw [e o v]; exact hp.2 hs a o v⟩
theorem CI_cg {V : Int → Prop} {F : (Int → Int) → Int → Int} (hM : MonoF V F) {h0 h h' : Int → Int} {D : Int → Prop} {mo : Int} (hc : CI V F h0 h D mo) (e : ∀ o, V o → h' o = h o) : CI V F h0 h' D mo := by
  have hF : ∀ o, V o → F h' o = F h o := fun o v => Int.le_antisymm (hM h' h (fun o v => by rw [e o v]; exact Int.le_refl _) o v) (hM h h' (fun o v => by rw [e o v]; exact Int.le_refl _) o v)
  refine ⟨PreF_cg hM hc.1 e, fun o v => by rw [e o v]; exact hc.2.1 o v, fun hs a o v d q => by rw [e o v]; exact hc.2.2.1 hs a o v d q, hc.2.2.2.1, fun q => ⟨fun o v => by rw [e o v]; exact (hc.2.2.2.2.1 q).1 o v, fun o v d => ?_⟩, hc.2.2.2.2.2⟩
  rw [hF o v, e o v]
  exact (hc.2.2.2.2.1 q).2 o v d
/-- o is gone over -/
theorem CI_up {V : Int → Prop} {F : (Int → Int) → Int → Int} (hM : MonoF V F) (hD : DepF V F) {h0 h h' : Int → Int} {D : Int → Prop} {mo mo' o : Int} (hc : CI V F h0 h D mo) (v : V o) (hh : ∀ x, V x → h' x = if x = o then F h o else h x) (hmo : mo' = if F h o ≤ h o then mo else 1) : CI V F h0 h' (fun x => D x ∨ x = o) mo' := by
  obtain ⟨⟨a1, a2⟩, a3, a4, a5, a6, a7⟩ := hc
  have up : ∀ x, V x → h x ≤ h' x := by
    intro x vx
    rw [hh x vx]
    split
    · rename_i q
      subst q
      exact a1 x vx
    · exact Int.le_refl _
  have bd : ∀ hs, SolF V F hs → ∀ x, V x → h' x ≤ hs x := by
    intro hs a x vx
    rw [hh x vx]
    split
    · rename_i q
      subst q
      rw [a x vx]
      exact hM h hs (a2 hs a) x vx
    · exact a2 hs a x vx
  have pre : ∀ x, V x → h' x ≤ F h' x := by
    intro x vx
    rw [hh x vx]
    split
    · rename_i q
      subst q
      exact hM h h' up x vx
    · exact Int.le_trans (a1 x vx) (hM h h' up x vx)
  have same : F h o ≤ h o → ∀ x, V x → h' x = h x := by
    intro q x vx
    rw [hh x vx]
    split
    · rename_i e
      subst e
      exact Int.le_antisymm q (a1 x vx)
    · rfl
  refine ⟨⟨pre, bd⟩, fun x vx => Int.le_trans (a3 x vx) (up x vx), fun hs a x vx d q => ?_, ?_, fun q => ?_, fun hs a q => ?_⟩
  · by_cases e : x = o
    · subst e
      have h1 : F h0 x = hs x := (hD hs a).2 h0 (fun y vy => Int.le_trans (a3 y vy) (a2 hs a y vy)) x vx q
      have h2 : F h0 x ≤ F h x := hM h0 h a3 x vx
      have h3 := bd hs a x vx
      rw [hh x vx, if_pos rfl] at h3 ⊢
      omega
    · have := a4 hs a x vx (d.resolve_right e) q
      rw [hh x vx, if_neg e]
      exact this
  · rw [hmo]
    split
    · exact a5
    · exact Or.inr rfl
  · rw [hmo] at q
    split at q
    · rename_i le
      obtain ⟨b1, b2⟩ := a6 q
      have hs := same le
      have hF : ∀ x, V x → F h' x = F h x := fun x vx => Int.le_antisymm (hM h' h (fun y vy => by rw [hs y vy]; exact Int.le_refl _) x vx) (hM h h' up x vx)
      refine ⟨fun x vx => by rw [hs x vx]; exact b1 x vx, fun x vx d => ?_⟩
      rw [hF x vx, hs x vx]
      rcases d with d | d
      · exact b2 x vx d
      · subst d
        exact le
    · omega
  · have h0m := a7 hs a q
    have e : ∀ x, V x → h x = hs x := fun x vx => by rw [(a6 h0m).1 x vx]; exact q x vx
    have h1 : F h o = hs o := (hD hs a).2 h (a2 hs a) o v (fun x vx _ => e x vx)
    rw [hmo, if_pos (by rw [h1, e o v]; exact Int.le_refl _)]
    exact h0m
noncomputable def cntX (V : Int → Prop) (hs h : Int → Int) : Int := sm (fun x => b2i (V x → h x = hs x)) 16
theorem sm_le {f g : Int → Int} : ∀ n : Nat, (∀ i : Nat, i < n → f i ≤ g i) → sm f n ≤ sm g n := by
  intro n
  induction n with
  | zero => intro _; exact Int.le_refl _
  | succ n ih =>
    intro h
    have h1 := ih (fun i hi => h i (by omega))
    have h2 := h n (by omega)
    show sm f n + f n ≤ sm g n + g n
    omega
theorem sm_lt {f g : Int → Int} : ∀ n : Nat, (∀ i : Nat, i < n → f i ≤ g i) → (∃ i : Nat, i < n ∧ f i + 1 ≤ g i) → sm f n + 1 ≤ sm g n := by
  intro n
  induction n with
  | zero => rintro _ ⟨i, hi, -⟩; omega
  | succ n ih =>
    rintro h ⟨i, hi, hf⟩
    show sm f n + f n + 1 ≤ sm g n + g n
    by_cases c : i = n
    · subst c
      have h1 := sm_le i (fun j hj => h j (by omega))
      omega
    · have h1 := ih (fun j hj => h j (by omega)) ⟨i, by omega, hf⟩
      have h2 := h n (by omega)
      omega
theorem cntX_16 (V : Int → Prop) (hs h : Int → Int) : 0 ≤ cntX V hs h ∧ cntX V hs h ≤ 16 := by
  have := sm_r (f := fun x => b2i (V x → h x = hs x)) (b := 1) (fun i => b2i_r _) 16
  unfold cntX
  omega
theorem sm_full {P : Int → Prop} : ∀ n : Nat, (n : Int) ≤ sm (fun x => b2i (P x)) n → ∀ i : Nat, i < n → P i := by
  intro n
  induction n with
  | zero => intro _ i hi; omega
  | succ n ih =>
    intro h i hi
    have h1 := sm_r (f := fun x => b2i (P x)) (b := 1) (fun i => b2i_r _) n
    have h2 := b2i_r (P n)
    have h3 : sm (fun x => b2i (P x)) (n + 1) = sm (fun x => b2i (P x)) n + b2i (P n) := rfl
    by_cases c : i = n
    · subst c
      apply Classical.byContradiction
      intro q
      have := b2i_0 q
      omega
    · exact ih (by omega) i (by omega)
theorem cntX_all {V : Int → Prop} (hV : ∀ o, V o → 0 ≤ o ∧ o < 16) {hs h : Int → Int} (hc : 16 ≤ cntX V hs h) : ∀ o, V o → h o = hs o := by
  intro o v
  obtain ⟨v0, v1⟩ := hV o v
  have := sm_full (P := fun x => V x → h x = hs x) 16 hc o.toNat (by omega)
  rw [Int.toNat_of_nonneg v0] at this
  exact this v
theorem cntX_s {V : Int → Prop} (hV : ∀ o, V o → 0 ≤ o ∧ o < 16) {hs h h' : Int → Int} (h1 : ∀ o, V o → h o ≤ h' o) (h2 : ∀ o, V o → h' o ≤ hs o) : cntX V hs h ≤ cntX V hs h' ∧ ((∃ o, V o ∧ h o ≠ hs o ∧ h' o = hs o) → cntX V hs h + 1 ≤ cntX V hs h') := by
  have mono : ∀ i : Nat, i < 16 → b2i (V i → h i = hs i) ≤ b2i (V i → h' i = hs i) := fun i _ => b2i_le (fun q v => by
    have a := q v
    have b := h1 i v
    have c := h2 i v
    omega)
  refine ⟨sm_le 16 mono, ?_⟩
  rintro ⟨o, v, a, b⟩
  obtain ⟨v0, v1⟩ := hV o v
  refine sm_lt 16 mono ⟨o.toNat, by omega, ?_⟩
  have e : ((o.toNat : Nat) : Int) = o := Int.toNat_of_nonneg v0
  rw [e, b2i_0 (fun q => a (q v)), b2i_1 (fun _ => b)]
  omega
/-- of those that aren't exact one has only exact ones below it -/
theorem low_ex {V : Int → Prop} {hs h : Int → Int} (h0 : ∀ o, V o → 0 ≤ hs o) (hn : ∃ o, V o ∧ h o ≠ hs o) : ∃ o, V o ∧ h o ≠ hs o ∧ ∀ o', V o' → hs o' < hs o → h o' = hs o' := by
  have key : ∀ (n : Nat) (o : Int), V o → h o ≠ hs o → hs o ≤ n → ∃ o, V o ∧ h o ≠ hs o ∧ ∀ o', V o' → hs o' < hs o → h o' = hs o' := by
    intro n
    induction n with
    | zero =>
      intro o v a b
      refine ⟨o, v, a, fun o' v' q => ?_⟩
      have := h0 o' v'
      omega
    | succ n ih =>
      intro o v a b
      by_cases c : ∀ o', V o' → hs o' < hs o → h o' = hs o'
      · exact ⟨o, v, a, c⟩
      · apply Classical.byContradiction
        intro d
        refine c (fun o' v' q => ?_)
        apply Classical.byContradiction
        intro e
        exact d (ih o' v' e (by omega))
  obtain ⟨o, v, a⟩ := hn
  exact key (hs o).toNat o v a (by have := h0 o v; omega)
/-- at the head of a round: r rounds are behind -/
def RH (V : Int → Prop) (F : (Int → Int) → Int → Int) (h : Int → Int) (r mo : Int) : Prop := PreF V F h ∧ (∀ hs, SolF V F hs → r ≤ cntX V hs h ∨ ∀ o, V o → h o = hs o) ∧ (mo = 0 ∨ mo = 1) ∧ (mo = 0 → SolF V F h) ∧ (mo = 1 → 17 ≤ r → ∀ hs, ¬ SolF V F hs)
theorem RH_0 {V : Int → Prop} {F : (Int → Int) → Int → Int} {h : Int → Int} (hp : PreF V F h) : RH V F h 0 1 := ⟨hp, fun hs _ => Or.inl (cntX_16 V hs h).1, Or.inr rfl, fun q => by omega, fun _ q => by omega⟩
theorem RH_s {V : Int → Prop} {F : (Int → Int) → Int → Int} (hV : ∀ o, V o → 0 ≤ o ∧ o < 16) (hD : DepF V F) {h h' : Int → Int} {r mo mo' : Int} {D : Int → Prop} (hr : RH V F h r mo) (hc : CI V F h h' D mo') (hall : ∀ o, V o → D o) : RH V F h' (r + 1) mo' := by
  obtain ⟨a1, a2, a3, a4, a5⟩ := hr
  obtain ⟨b1, b2, b3, b4, b5, b6⟩ := hc
  refine ⟨b1, fun hs s => ?_, b4, fun q => ?_, fun q q2 hs s => ?_⟩
  · have hup := cntX_s (hs := hs) hV b2 (b1.2 hs s)
    by_cases c : ∃ o, V o ∧ h o ≠ hs o
    · left
      obtain ⟨o, v, x, y⟩ := low_ex (hD hs s).1 c
      have := hup.2 ⟨o, v, x, b3 hs s o v (hall o v) y⟩
      rcases a2 hs s with z | z
      · omega
      · exact absurd (z o v) x
    · right
      intro o v
      have e : h o = hs o := Classical.byContradiction fun z => c ⟨o, v, z⟩
      have h1 := b2 o v
      have h2 := b1.2 hs s o v
      omega
  · intro o v
    exact Int.le_antisymm (b1.1 o v) ((b5 q).2 o v (hall o v))
  · have ex : ∀ o, V o → h o = hs o := by
      rcases a2 hs s with z | z
      · exact cntX_all hV (by omega)
      · exact z
    have := b6 hs s ex
    omega
/-- a bound that is kept: then there is a solution -/
theorem sol_ex {V : Int → Prop} {F : (Int → Int) → Int → Int} (hV : ∀ o, V o → 0 ≤ o ∧ o < 16) (hM : MonoF V F) {B h : Int → Int} (hB : ∀ t : Int → Int, (∀ o, V o → t o ≤ B o) → ∀ o, V o → F t o ≤ B o) (h0 : ∀ o, V o → h o ≤ F h o) (h1 : ∀ o, V o → h o ≤ B o) : ∃ hs, SolF V F hs ∧ ∀ o, V o → hs o ≤ B o := by
  have key : ∀ (n : Nat) (h : Int → Int), (∀ o, V o → h o ≤ F h o) → (∀ o, V o → h o ≤ B o) → sm (fun x => B x * b2i (V x) - h x * b2i (V x)) 16 ≤ n → ∃ hs, SolF V F hs ∧ ∀ o, V o → hs o ≤ B o := by
    intro n
    induction n with
    | zero =>
      intro h a b c
      refine ⟨h, fun o v => ?_, b⟩
      have hz : ∀ x, V x → h x = B x := by
        intro x vx
        apply Classical.byContradiction
        intro q
        obtain ⟨x0, x1⟩ := hV x vx
        have hb := b x vx
        have := sm_lt (f := fun _ => 0) (g := fun x => B x * b2i (V x) - h x * b2i (V x)) 16 (fun i _ => by
          by_cases vi : V i
          · have := b i vi
            simp only [b2i_1 vi, Int.mul_one]
            omega
          · simp only [b2i_0 vi, Int.mul_zero]
            omega) ⟨x.toNat, by omega, by
          have e : ((x.toNat : Nat) : Int) = x := Int.toNat_of_nonneg x0
          simp only [e, b2i_1 vx, Int.mul_one]
          omega⟩
        have z : sm (fun _ => (0 : Int)) 16 = 0 := rfl
        omega
      have h2 := a o v
      have h3 := hB h b o v
      have h4 := hz o v
      omega
    | succ n ih =>
      intro h a b c
      by_cases q : ∀ o, V o → F h o ≤ h o
      · exact ⟨h, fun o v => Int.le_antisymm (a o v) (q o v), b⟩
      · have : ∃ o, V o ∧ h o < F h o := by
          apply Classical.byContradiction
          intro z
          exact q (fun o v => by
            rcases Int.lt_or_le (h o) (F h o) with y | y
            · exact absurd ⟨o, v, y⟩ z
            · exact y)
        obtain ⟨o, v, lt⟩ := this
        obtain ⟨o0, o1⟩ := hV o v
        have hup : ∀ x, V x → h x ≤ (fun x => if x = o then F h o else h x) x := by
          intro x vx
          dsimp only
          split
          · rename_i e
            subst e
            omega
          · exact Int.le_refl _
        refine ih (fun x => if x = o then F h o else h x) (fun x vx => ?_) (fun x vx => ?_) ?_
        · split
          · rename_i e
            subst e
            exact hM h _ hup x vx
          · exact Int.le_trans (a x vx) (hM h _ hup x vx)
        · split
          · rename_i e
            subst e
            exact hB h b x vx
          · exact b x vx
        · have := sm_lt (f := fun x => B x * b2i (V x) - (if x = o then F h o else h x) * b2i (V x)) (g := fun x => B x * b2i (V x) - h x * b2i (V x)) 16 (fun i _ => by
            by_cases vi : V i
            · have := hup i vi
              dsimp only at this ⊢
              simp only [b2i_1 vi, Int.mul_one]
              omega
            · simp only [b2i_0 vi, Int.mul_zero]
              omega) ⟨o.toNat, by omega, by
            have e : ((o.toNat : Nat) : Int) = o := Int.toNat_of_nonneg o0
            simp only [e, if_true, b2i_1 v, Int.mul_one]
            omega⟩
          omega
  exact key (sm (fun x => B x * b2i (V x) - h x * b2i (V x)) 16).toNat h h0 h1 (by omega)
