/-! operators that take the greatest one of a base and the ends before -/
theorem MxO_ex (a b : Int) (P : Int → Prop) (f : Int → Int) : ∀ n : Nat, ∃ r, MxO a b P f n r := by
  intro n
  induction n with
  | zero => exact ⟨_, MxO_0⟩
  | succ n ih =>
    obtain ⟨r, h⟩ := ih
    by_cases c : P n
    · exact ⟨_, MxO_y h (by omega) c⟩
    · exact ⟨_, MxO_n h c⟩
theorem MxO_hEq {V : Int → Prop} {P : Int → Int → Prop} {d r h : Int → Int} {o b x : Int} {Q : Int → Prop} (hV : ∀ o, V o → 0 ≤ o ∧ o < 16) (h1 : ∀ k, V k → P k o → Q k ∨ h k + d k ≤ b) (h2 : ∀ k, 0 ≤ k → k < 16 → Q k → V k ∧ P k o) (h3 : b ≤ r o ∨ ∃ k, V k ∧ P k o ∧ b = h k + d k) (hx : MxO (r o) b Q (fun k => h k + d k) 16 x) : hEq V P d r h o x := by
  obtain ⟨a1, a2, a3, a4⟩ := hx
  refine ⟨a1, fun k v p => ?_, ?_⟩
  · rcases h1 k v p with q | q
    · exact a3 k (hV k v).1 (hV k v).2 q
    · omega
  · rcases a4 with q | q | ⟨k, k0, k1, k2, k3⟩
    · exact Or.inl q
    · rcases h3 with z | ⟨k, v, p, z⟩
      · exact Or.inl (by omega)
      · exact Or.inr ⟨k, v, p, by omega⟩
    · obtain ⟨v, p⟩ := h2 k k0 k1 k2
      exact Or.inr ⟨k, v, p, k3⟩
theorem hEq_ex {V : Int → Prop} {P : Int → Int → Prop} {d r : Int → Int} (hV : ∀ o, V o → 0 ≤ o ∧ o < 16) (h : Int → Int) (o : Int) : ∃ x, hEq V P d r h o x := by
  obtain ⟨x, hx⟩ := MxO_ex (r o) (r o) (fun k => V k ∧ P k o) (fun k => h k + d k) 16
  exact ⟨x, MxO_hEq hV (fun k v p => Or.inl ⟨v, p⟩) (fun k _ _ q => q) (Or.inl (Int.le_refl _)) hx⟩
theorem hEq_mono {V : Int → Prop} {P : Int → Int → Prop} {d r h h' : Int → Int} {o x y : Int} (hh : ∀ o, V o → h o ≤ h' o) (hx : hEq V P d r h o x) (hy : hEq V P d r h' o y) : x ≤ y := by
  obtain ⟨a1, a2, a3⟩ := hx
  obtain ⟨b1, b2, b3⟩ := hy
  rcases a3 with q | ⟨k, v, p, q⟩
  · omega
  · have := b2 k v p
    have := hh k v
    omega
theorem hEq_un {V : Int → Prop} {P : Int → Int → Prop} {d r h : Int → Int} {o x y : Int} (hx : hEq V P d r h o x) (hy : hEq V P d r h o y) : x = y := Int.le_antisymm (hEq_mono (fun _ _ => Int.le_refl _) hx hy) (hEq_mono (fun _ _ => Int.le_refl _) hy hx)
noncomputable def hOp (V : Int → Prop) (P : Int → Int → Prop) (d r : Int → Int) (h : Int → Int) (o : Int) : Int := @Classical.epsilon _ ⟨0⟩ (fun x => hEq V P d r h o x)
theorem hOp_is {V : Int → Prop} {P : Int → Int → Prop} {d r : Int → Int} (hV : ∀ o, V o → 0 ≤ o ∧ o < 16) (h : Int → Int) (o : Int) : hEq V P d r h o (hOp V P d r h o) := Classical.epsilon_spec (hEq_ex hV h o)
theorem hOp_m {V : Int → Prop} {P : Int → Int → Prop} {d r : Int → Int} (hV : ∀ o, V o → 0 ≤ o ∧ o < 16) : MonoF V (hOp V P d r) := fun h h' hh o _ => hEq_mono hh (hOp_is hV h o) (hOp_is hV h' o)
theorem hOp_d {V : Int → Prop} {P : Int → Int → Prop} {d r : Int → Int} (hV : ∀ o, V o → 0 ≤ o ∧ o < 16) (hd : ∀ o, V o → 1 ≤ d o) (hr : ∀ o, V o → 0 ≤ r o) : DepF V (hOp V P d r) := by
  intro hs s
  refine ⟨fun o v => ?_, fun h hle o v hx => ?_⟩
  · rw [s o v]
    exact Int.le_trans (hr o v) (hOp_is hV hs o).1
  · refine hEq_un (hOp_is hV h o) ?_
    have e := hOp_is (P := P) (d := d) (r := r) hV hs o
    rw [← s o v] at e
    refine hEq_congr e (fun k vk p => ?_)
    have := e.2.1 k vk p
    have := hd k vk
    exact hx k vk (by omega)
theorem hOp_sol {V : Int → Prop} {P : Int → Int → Prop} {d r hs : Int → Int} (hV : ∀ o, V o → 0 ≤ o ∧ o < 16) : SolF V (hOp V P d r) hs ↔ IsHead V P d r hs := by
  constructor
  · intro s o v
    have e := hOp_is (P := P) (d := d) (r := r) hV hs o
    rw [← s o v] at e
    exact e
  · intro H o v
    exact hEq_un (H o v) (hOp_is hV hs o)
/-- where a longer one has heads, the shorter one has -/
theorem head_ex {V : Int → Prop} {P P' : Int → Int → Prop} {d r h' : Int → Int} (hV : ∀ o, V o → 0 ≤ o ∧ o < 16) (hr : ∀ o, V o → 0 ≤ r o) (hP : ∀ o' o, V o' → V o → P o' o → P' o' o) (H' : IsHead V P' d r h') : ∃ h, IsHead V P d r h := by
  obtain ⟨hs, a, -⟩ := sol_ex (V := V) (F := hOp V P d r) (B := h') (h := fun _ => 0) hV (hOp_m hV) (fun t ht o v => by
    obtain ⟨b1, b2, b3⟩ := hOp_is (P := P) (d := d) (r := r) hV t o
    obtain ⟨c1, c2, c3⟩ := H' o v
    rcases b3 with q | ⟨k, vk, p, q⟩
    · omega
    · have := c2 k vk (hP k o vk v p)
      have := ht k vk
      omega) (fun o v => Int.le_trans (hr o v) (hOp_is hV _ o).1) (fun o v => Int.le_trans (hr o v) (H' o v).1)
  exact ⟨hs, (hOp_sol hV).mp a⟩
theorem tail_head {V : Int → Prop} {P : Int → Int → Prop} {d t : Int → Int} : IsTail V P d t ↔ IsHead V (fun o' o => P o o') d (fun _ => 0) t := by
  constructor
  · intro H o v
    obtain ⟨a, b, c⟩ := H o v
    refine ⟨a, fun k vk p => by have := b k vk p; omega, ?_⟩
    rcases c with c | ⟨k, vk, p, c⟩
    · exact Or.inl c
    · exact Or.inr ⟨k, vk, p, by omega⟩
  · intro H o v
    obtain ⟨a, b, c⟩ := H o v
    refine ⟨a, fun k vk p => by have := b k vk p; omega, ?_⟩
    rcases c with c | ⟨k, vk, p, c⟩
    · exact Or.inl c
    · exact Or.inr ⟨k, vk, p, by omega⟩
theorem tail_ex {V : Int → Prop} {P P' : Int → Int → Prop} {d t' : Int → Int} (hV : ∀ o, V o → 0 ≤ o ∧ o < 16) (hP : ∀ o' o, V o' → V o → P o' o → P' o' o) (H' : IsTail V P' d t') : ∃ t, IsTail V P d t := by
  obtain ⟨t, h⟩ := head_ex (P := fun o' o => P o o') (r := fun _ => 0) hV (fun _ _ => Int.le_refl _) (fun o' o v' v p => hP o o' v v' p) (tail_head.mp H')
  exact ⟨t, tail_head.mpr h⟩
/-! the reference's findForced -/
def p456 (t a : Nat) (_x : Int) : Prop := (t = 45 ∨ t = 46) ∧ a = 0
def gOK (σ : Mem) : Prop := rWF σ ∧ ∀ o k, 0 ≤ o → o < 16 → 0 ≤ k → k < 16 → fst1 (σ 54 0 o) k → rOp σ o ∧ rOp σ k
def pFc (σ : Mem) (o' o : Int) : Prop := (o % 4 ≠ 0 ∧ o' = o - 1) ∨ fst1 (σ 54 0 o) o'
noncomputable def fHo (σ : Mem) : (Int → Int) → Int → Int := hOp (rOp σ) (pFc σ) (rDu σ) (fun o => rRe σ (o / 4))
noncomputable def fTo (σ : Mem) : (Int → Int) → Int → Int := hOp (rOp σ) (fun o' o => pFc σ o o') (rDu σ) (fun _ => 0)
def fHd (σ : Mem) (h : Int → Int) : Prop := IsHead (rOp σ) (pFc σ) (rDu σ) (fun o => rRe σ (o / 4)) h
def fTl (σ : Mem) (t : Int → Int) : Prop := IsTail (rOp σ) (pFc σ) (rDu σ) t
theorem p456_e {σ σ' : Mem} (h : FrG p456 σ σ') : σ' 38 0 = σ 38 0 ∧ σ' 54 0 = σ 54 0 := ⟨h.f 38 0 (by rintro x ⟨q, -⟩; omega), h.f 54 0 (by rintro x ⟨q, -⟩; omega)⟩
theorem gOK_V {σ : Mem} : ∀ o, rOp σ o → 0 ≤ o ∧ o < 16 := fun _ v => ⟨v.1, v.2.1⟩
theorem fHo_m {σ : Mem} : MonoF (rOp σ) (fHo σ) := hOp_m gOK_V
theorem fTo_m {σ : Mem} : MonoF (rOp σ) (fTo σ) := hOp_m gOK_V
theorem fHo_d {σ : Mem} (h : rWF σ) : DepF (rOp σ) (fHo σ) := hOp_d gOK_V (fun _ v => (rWF_op h v).2.2.1) (fun _ v => (rWF_op h v).2.2.2.2.2.1)
theorem fTo_d {σ : Mem} (h : rWF σ) : DepF (rOp σ) (fTo σ) := hOp_d gOK_V (fun _ v => (rWF_op h v).2.2.1) (fun _ _ => Int.le_refl _)
theorem fHo_eq {σ σ' : Mem} (hg : gOK σ) (hF : FrG p456 σ σ') {o r : Int} (v : rOp σ o) (h0 : ∀ o, rOp σ o → 0 ≤ σ' 45 0 o) (hr : MxO (rRe σ' (o / 4)) (bRt σ' o) (fst1 (σ' 54 0 o)) (eF σ') 16 r) : r = fHo σ (σ' 45 0) o := by
  obtain ⟨e38, e54⟩ := p456_e hF
  have R := r38 e38
  unfold fHo
  refine hEq_un ?_ (hOp_is gOK_V _ _)
  rw [e54, R.2.2.2.1] at hr
  have ee : eF σ' = fun k => σ' 45 0 k + rDu σ k := by
    funext k
    unfold eF
    rw [R.2.2.1]
  have v0 := v.1
  have v1 := v.2.1
  have hre := (rWF_op hg.1 v).2.2.2.2.2.1
  refine MxO_hEq (Q := fst1 (σ 54 0 o)) (b := bRt σ' o) gOK_V (fun k vk p => ?_) (fun k k0 k1 q => ⟨(hg.2 o k v0 v1 k0 k1 q).2, Or.inr q⟩) ?_ (by rw [← ee]; exact hr)
  · rcases p with ⟨p1, p2⟩ | p
    · right
      unfold bRt
      rw [if_neg p1, ← p2, ee]
      exact Int.le_refl _
    · exact Or.inl p
  · unfold bRt
    by_cases c : o % 4 = 0
    · rw [if_pos c]
      exact Or.inl hre
    · rw [if_neg c, ee]
      refine Or.inr ⟨o - 1, ⟨by omega, by omega, ?_⟩, Or.inl ⟨c, rfl⟩, rfl⟩
      have := v.2.2
      rw [show (o - 1) / 4 = o / 4 by omega]
      omega
theorem fTo_eq {σ σ' : Mem} (hg : gOK σ) (hF : FrG p456 σ σ') {o r : Int} (v : rOp σ o) (hr : MxO (aRt σ' o) (aRt σ' o) (fun k => fst1 (σ' 54 0 k) o) (wTF σ') 16 r) (h0 : 0 ≤ aRt σ' o) (h1 : ∀ k, rOp σ k → 0 ≤ wTF σ' k) : r = fTo σ (σ' 46 0) o := by
  obtain ⟨e38, e54⟩ := p456_e hF
  have R := r38 e38
  unfold fTo
  refine hEq_un ?_ (hOp_is gOK_V _ _)
  rw [e54] at hr
  have ee : wTF σ' = fun k => σ' 46 0 k + rDu σ k := by
    funext k
    unfold wTF
    rw [R.2.2.1]
    omega
  have v0 := v.1
  have v1 := v.2.1
  have hs := (hg.1.1.2.1 (o / 4) (vOp_j v).1 (vOp_j v).2.1).2.1
  have hr' : MxO 0 (aRt σ' o) (fun k => fst1 (σ 54 0 k) o) (wTF σ') 16 r := by
    obtain ⟨a1, a2, a3, a4⟩ := hr
    refine ⟨by omega, a2, a3, ?_⟩
    rcases a4 with q | q | q
    · exact Or.inr (Or.inl q)
    · exact Or.inr (Or.inl q)
    · exact Or.inr (Or.inr q)
  refine MxO_hEq (Q := fun k => fst1 (σ 54 0 k) o) (b := aRt σ' o) gOK_V (fun k vk p => ?_) (fun k k0 k1 q => ⟨(hg.2 k o k0 k1 v0 v1 q).1, Or.inr q⟩) ?_ (by rw [← ee]; exact hr')
  · rcases p with ⟨p1, p2⟩ | p
    · right
      have k0 := vk.1
      have k2 := vk.2.2
      have e4 : k / 4 = o / 4 := by omega
      rw [e4] at k2
      unfold aRt
      rw [R.1, if_pos (by omega), ee, show o + 1 = k by omega]
      exact Int.le_refl _
    · exact Or.inl p
  · unfold aRt
    by_cases c : o % 4 + 1 < rSt σ' (o / 4)
    · rw [if_pos c, ee]
      rw [R.1] at c
      refine Or.inr ⟨o + 1, ⟨by omega, by omega, ?_⟩, Or.inl ⟨by omega, by omega⟩, rfl⟩
      rw [show (o + 1) / 4 = o / 4 by omega]
      omega
    · rw [if_neg c]
      exact Or.inl (Int.le_refl _)
/-- mo = one of the two -/
def or01 (m a b : Int) : Prop := (m = 0 ∧ a = 0 ∧ b = 0) ∨ (m = 1 ∧ (a = 1 ∨ b = 1))
def FG0 (σ σ' : Mem) (x : Int) : Prop := FrG p456 σ σ' ∧ ∀ y, 0 ≤ y → y < x → σ' 45 0 y = 0 ∧ σ' 46 0 y = 0
theorem FG0_0 {σ : Mem} : FG0 σ σ 0 := ⟨FrG.r, fun y a b => by omega⟩
theorem FG0_s {σ σ' : Mem} {x : Int} (h : FG0 σ σ' x) : FG0 σ (up (up σ' 45 0 x 0) 46 0 x 0) (x + 1) := by
  refine ⟨(h.1.u ⟨Or.inl rfl, rfl⟩).u ⟨Or.inr rfl, rfl⟩, fun y a b => ?_⟩
  by_cases c : y = x
  · simp [up_ap, c]
  · simp [up_ap, c]
    exact h.2 y a (by omega)
def FGb (σ σ' : Mem) (b : Int) : Prop := ∀ o, rOp σ o → 0 ≤ σ' 45 0 o ∧ σ' 45 0 o ≤ 50 + b ∧ 0 ≤ σ' 46 0 o ∧ σ' 46 0 o ≤ b
def FGr (σ σ' : Mem) (r mo : Int) : Prop := FrG p456 σ σ' ∧ (∃ m1 m2, RH (rOp σ) (fHo σ) (σ' 45 0) r m1 ∧ RH (rOp σ) (fTo σ) (σ' 46 0) r m2 ∧ or01 mo m1 m2) ∧ FGb σ σ' (320 * r) ∧ 0 ≤ r ∧ r ≤ 18
def FGc (σ σ' : Mem) (r x mo : Int) : Prop := FrG p456 σ σ' ∧ (∃ h0 t0 n1 n2 m1 m2, RH (rOp σ) (fHo σ) h0 r n1 ∧ RH (rOp σ) (fTo σ) t0 r n2 ∧ CI (rOp σ) (fHo σ) h0 (σ' 45 0) (fun o => o < x) m1 ∧ CI (rOp σ) (fTo σ) t0 (σ' 46 0) (fun o => o < x) m2 ∧ or01 mo m1 m2) ∧ FGb σ σ' (320 * r + 20 * x) ∧ 0 ≤ r ∧ r ≤ 17 ∧ 0 ≤ x ∧ x ≤ 16
theorem FGr_0 {σ σ' : Mem} (hw : rWF σ) {x : Int} (h : FG0 σ σ' x) (hx : 16 ≤ x) : FGr σ σ' 0 1 := by
  obtain ⟨a1, a2⟩ := h
  have z : ∀ o, rOp σ o → σ' 45 0 o = 0 ∧ σ' 46 0 o = 0 := fun o v => a2 o v.1 (by have := v.2.1; omega)
  refine ⟨a1, ⟨1, 1, RH_0 ⟨fun o v => ?_, fun hs s o v => ?_⟩, RH_0 ⟨fun o v => ?_, fun hs s o v => ?_⟩, Or.inr ⟨rfl, Or.inl rfl⟩⟩, fun o v => by have := z o v; omega, by omega, by omega⟩
  · rw [(z o v).1]
    exact Int.le_trans (rWF_op hw v).2.2.2.2.2.1 (hOp_is gOK_V _ _).1
  · rw [(z o v).1]
    exact (fHo_d hw hs s).1 o v
  · rw [(z o v).2]
    exact (hOp_is gOK_V _ _).1
  · rw [(z o v).2]
    exact (fTo_d hw hs s).1 o v
theorem FGc_0 {σ σ' : Mem} {r mo : Int} (h : FGr σ σ' r mo) (hr : r ≤ 17) : FGc σ σ' r 0 0 := by
  obtain ⟨a1, ⟨m1, m2, h1, h2, -⟩, a4, a5, a6⟩ := h
  refine ⟨a1, ⟨_, _, _, _, 0, 0, h1, h2, CI_D (CI_0 h1.1) (fun o v d => ?_), CI_D (CI_0 h2.1) (fun o v d => ?_), Or.inl ⟨rfl, rfl, rfl⟩⟩, fun o v => by have := a4 o v; omega, a5, hr, by omega, by omega⟩
  · have := v.1
    omega
  · have := v.1
    omega
theorem FGc_end {σ σ' : Mem} (hw : rWF σ) {r x mo : Int} (h : FGc σ σ' r x mo) (hx : 16 ≤ x) : FGr σ σ' (r + 1) mo := by
  obtain ⟨a1, ⟨h0, t0, n1, n2, m1, m2, h1, h2, c1, c2, hm⟩, a4, a5, a6, a7, a8⟩ := h
  refine ⟨a1, ⟨m1, m2, RH_s gOK_V (fHo_d hw) h1 c1 (fun o v => by have := v.2.1; omega), RH_s gOK_V (fTo_d hw) h2 c2 (fun o v => by have := v.2.1; omega), hm⟩, fun o v => by have := a4 o v; omega, by omega, by omega⟩
theorem FGc_n {σ σ' : Mem} {r x mo : Int} (h : FGc σ σ' r x mo) (hn : ¬ rOp σ x) (hx : x < 16) : FGc σ σ' r (x + 1) mo := by
  obtain ⟨a1, ⟨h0, t0, n1, n2, m1, m2, h1, h2, c1, c2, hm⟩, a4, a5, a6, a7, a8⟩ := h
  have hd : ∀ o, rOp σ o → o < x + 1 → o < x := fun o v d => by
    rcases (show o < x ∨ o = x by omega) with q | rfl
    · exact q
    · exact absurd v hn
  exact ⟨a1, ⟨h0, t0, n1, n2, m1, m2, h1, h2, CI_D c1 hd, CI_D c2 hd, hm⟩, fun o v => by have := a4 o v; omega, a5, a6, by omega, by omega⟩
theorem FGc_ok {σ σ' : Mem} {r x mo : Int} (hg : gOK σ) (h : FGc σ σ' r x mo) : fOK σ' ∧ rOp σ' = rOp σ ∧ (∀ x, rOp σ x → 0 ≤ aRt σ' x) ∧ ∀ k, rOp σ k → 0 ≤ wTF σ' k := by
  obtain ⟨a1, -, a4, a5, a6, a7, a8⟩ := h
  obtain ⟨e38, e54⟩ := p456_e a1
  have R := r38 e38
  have eV : rOp σ' = rOp σ := by
    unfold rOp
    rw [R.1]
  have w : ∀ k, rOp σ k → 0 ≤ wTF σ' k := fun k v => by
    have := a4 k v
    have := (rWF_op hg.1 v).2.2.1
    unfold wTF
    rw [R.2.2.1]
    omega
  refine ⟨⟨⟨R.2.2.2.2.2.2.2.1.mpr hg.1, fun o v => ?_⟩, ?_⟩, eV, fun x v => ?_, w⟩
  · rw [eV] at v
    have := a4 o v
    omega
  · rw [e54, eV]
    exact hg.2
  · unfold aRt
    split
    · rename_i c
      rw [R.1] at c
      have v0 := v.1
      have v1 := v.2.1
      have hs := (hg.1.1.2.1 (x / 4) (vOp_j v).1 (vOp_j v).2.1).2.1
      refine w (x + 1) ⟨by omega, by omega, ?_⟩
      rw [show (x + 1) / 4 = x / 4 by omega]
      omega
    · exact Int.le_refl _
theorem FGc_y {σ σ' σ2 : Mem} {r x mo mo' hd tl : Int} (hg : gOK σ) (h : FGc σ σ' r x mo) (v : rOp σ x) (hh : MxO (rRe σ' (x / 4)) (bRt σ' x) (fst1 (σ' 54 0 x)) (eF σ') 16 hd) (ht : MxO (aRt σ' x) (aRt σ' x) (fun k => fst1 (σ' 54 0 k) x) (wTF σ') 16 tl) (hm : (hd ≤ σ' 45 0 x ∧ tl ≤ σ' 46 0 x ∧ mo' = bor mo 0) ∨ ((σ' 45 0 x < hd ∨ σ' 46 0 x < tl) ∧ mo' = bor mo 1)) (h2 : σ2 = up (up σ' 45 0 x hd) 46 0 x tl) : FGc σ σ2 r (x + 1) mo' := by
  obtain ⟨q1, q2, q3, q4⟩ := FGc_ok hg h
  obtain ⟨a1, ⟨h0, t0, n1, n2, m1, m2, h1, h3, c1, c2, hm0⟩, a4, a5, a6, a7, a8⟩ := h
  have e1 := fHo_eq hg a1 v (fun o w => (a4 o w).1) hh
  have e2 := fTo_eq hg a1 v ht (q3 x v) q4
  have f1 : ∀ y, σ2 45 0 y = if y = x then hd else σ' 45 0 y := fun y => by rw [h2]; simp [up_ap]
  have f2 : ∀ y, σ2 46 0 y = if y = x then tl else σ' 46 0 y := fun y => by rw [h2]; simp [up_ap]
  have x0 := v.1
  have x1 := v.2.1
  have hD : ∀ o, rOp σ o → o < x + 1 → o < x ∨ o = x := fun o _ d => by omega
  have b0 : FGb σ σ2 (320 * r + 20 * (x + 1)) := by
    intro o w
    have hb := a4 o w
    rw [f1, f2]
    have H1 : 0 ≤ hd ∧ hd ≤ 50 + (320 * r + 20 * (x + 1)) := by
      rw [e1]
      have g := hOp_is (V := rOp σ) (P := pFc σ) (d := rDu σ) (r := fun o => rRe σ (o / 4)) gOK_V (σ' 45 0) x
      have wx := rWF_op hg.1 v
      refine ⟨Int.le_trans wx.2.2.2.2.2.1 g.1, ?_⟩
      unfold fHo
      rcases g.2.2 with c | ⟨k, vk, -, c⟩
      · dsimp only at c
        rw [c]
        omega
      · rw [c]
        have := a4 k vk
        have := (rWF_op hg.1 vk).2.2.2.1
        omega
    have H2 : 0 ≤ tl ∧ tl ≤ 320 * r + 20 * (x + 1) := by
      rw [e2]
      have g := hOp_is (V := rOp σ) (P := fun o' o => pFc σ o o') (d := rDu σ) (r := fun _ => 0) gOK_V (σ' 46 0) x
      refine ⟨g.1, ?_⟩
      unfold fTo
      rcases g.2.2 with c | ⟨k, vk, -, c⟩
      · dsimp only at c
        rw [c]
        omega
      · rw [c]
        have := a4 k vk
        have := (rWF_op hg.1 vk).2.2.2.1
        omega
    split <;> omega
  have mk1 := fun m' hm' => CI_D (CI_up (h' := σ2 45 0) (mo' := m') fHo_m (fHo_d hg.1) c1 v (fun y vy => by rw [f1, ← e1]) hm') hD
  have mk2 := fun m' hm' => CI_D (CI_up (h' := σ2 46 0) (mo' := m') fTo_m (fTo_d hg.1) c2 v (fun y vy => by rw [f2, ← e2]) hm') hD
  have k1 := c1.2.2.2.1
  have k2 := c2.2.2.2.1
  have km : mo = 0 ∨ mo = 1 := by
    rcases hm0 with q | q <;> omega
  refine ⟨by rw [h2]; exact (a1.u ⟨Or.inl rfl, rfl⟩).u ⟨Or.inr rfl, rfl⟩, ⟨h0, t0, n1, n2, _, _, h1, h3, mk1 _ rfl, mk2 _ rfl, ?_⟩, b0, a5, a6, by omega, by omega⟩
  rw [← e1, ← e2]
  unfold or01 at hm0 ⊢
  rcases hm with ⟨z1, z2, z3⟩ | ⟨z1, z3⟩
  · rw [if_pos z1, if_pos z2, z3, (bor01 km).1]
    exact hm0
  · rw [z3, (bor01 km).2]
    right
    refine ⟨rfl, ?_⟩
    rcases z1 with z1 | z1
    · left
      rw [if_neg (by omega)]
    · right
      rw [if_neg (by omega)]
theorem FGr_t {σ σ' : Mem} {r : Int} (hg : gOK σ) (h : FGr σ σ' r 0) : rBd σ' ∧ fHd σ (σ' 45 0) ∧ fTl σ (σ' 46 0) := by
  obtain ⟨a1, ⟨m1, m2, h1, h2, hm⟩, a4, a5, a6⟩ := h
  obtain ⟨e38, e54⟩ := p456_e a1
  have R := r38 e38
  have eV : rOp σ' = rOp σ := by
    unfold rOp
    rw [R.1]
  have z : m1 = 0 ∧ m2 = 0 := by
    rcases hm with q | q <;> omega
  refine ⟨⟨R.2.2.2.2.2.2.2.1.mpr hg.1, fun o v => ?_⟩, (hOp_sol gOK_V).mp (h1.2.2.2.1 z.1), tail_head.mpr ((hOp_sol gOK_V).mp (h2.2.2.2.1 z.2))⟩
  rw [eV] at v
  have := a4 o v
  omega
theorem FGr_f {σ σ' : Mem} {r mo : Int} (h : FGr σ σ' r mo) (hm : mo ≠ 0) (hr : 17 < r) : (∀ g, ¬ fHd σ g) ∨ ∀ t, ¬ fTl σ t := by
  obtain ⟨a1, ⟨m1, m2, h1, h2, hm0⟩, a4, a5, a6⟩ := h
  rcases hm0 with q | ⟨-, q | q⟩
  · omega
  · exact Or.inl fun g H => h1.2.2.2.2 q (by omega) g ((hOp_sol gOK_V).mpr H)
  · exact Or.inr fun t H => h2.2.2.2.2 q (by omega) t ((hOp_sol gOK_V).mpr (tail_head.mp H))
theorem FGr_mo {σ σ' : Mem} {r mo : Int} (h : FGr σ σ' r mo) : mo = 0 ∨ mo = 1 := by
  obtain ⟨a1, ⟨m1, m2, h1, h2, hm0⟩, a4, a5, a6⟩ := h
  rcases hm0 with q | q <;> omega
theorem FGc_mo {σ σ' : Mem} {r x mo : Int} (h : FGc σ σ' r x mo) : mo = 0 ∨ mo = 1 := by
  obtain ⟨a1, ⟨h0, t0, n1, n2, m1, m2, h1, h2, c1, c2, hm0⟩, -⟩ := h
  rcases hm0 with q | q <;> omega
