/-! the workshop as one view: what no answer shows is 0 -/
abbrev Vw : Type := Nat → Int → Int
def inV (w : Vw) (t : Nat) (x : Int) : Prop := (t = 5 ∧ x = 0) ∨ ((t = 8 ∨ t = 9) ∧ 0 ≤ x ∧ x < w 5 0) ∨ (t = 10 ∧ 0 ≤ x ∧ x < 4) ∨ ((t = 11 ∨ t = 12) ∧ vOp (w 10) x) ∨ (t = 13 ∧ 0 ≤ x ∧ x < 4) ∨ (t = 14 ∧ 0 ≤ x ∧ x < 16 ∧ x % 4 < w 13 (x / 4))
noncomputable def cnV (w : Vw) : Vw := fun t x => cif (inV w t x) (w t x) 0
def vwS (σ : Mem) (i : Nat) : Vw := fun t x => σ t i x
noncomputable def cv (σ : Mem) (i : Nat) : Vw := cnV (vwS σ i)
def wWF (w : Vw) : Prop := WF (w 5 0) (w 10) (w 11) (w 12) (w 13) (w 14) ∧ ∀ j, 0 ≤ j → j < w 5 0 → 0 ≤ w 8 j ∧ w 8 j ≤ 50 ∧ 0 ≤ w 9 j ∧ w 9 j ≤ 200
def wAG (w w' : Vw) : Prop := AG (w 5 0) (w' 5 0) (w 10) (w' 10) (w 11) (w' 11) (w 12) (w' 12) (w 8) (w' 8) (w 13) (w' 13) (w 14) (w' 14)
theorem sWF_w {σ : Mem} {i : Nat} : sWF σ i ↔ wWF (vwS σ i) := Iff.rfl
theorem cn_in {w : Vw} {t : Nat} {x : Int} (h : inV w t x) : cnV w t x = w t x := cif_1 h
theorem cn_out {w : Vw} {t : Nat} {x : Int} (h : ¬ inV w t x) : cnV w t x = 0 := cif_0 h
theorem cn5 (w : Vw) : cnV w 5 0 = w 5 0 := cn_in (Or.inl ⟨rfl, rfl⟩)
theorem cn8 {w : Vw} {j : Int} (a : 0 ≤ j) (b : j < w 5 0) : cnV w 8 j = w 8 j := cn_in (Or.inr (Or.inl ⟨Or.inl rfl, a, b⟩))
theorem cn9 {w : Vw} {j : Int} (a : 0 ≤ j) (b : j < w 5 0) : cnV w 9 j = w 9 j := cn_in (Or.inr (Or.inl ⟨Or.inr rfl, a, b⟩))
theorem cn10 {w : Vw} {j : Int} (a : 0 ≤ j) (b : j < 4) : cnV w 10 j = w 10 j := cn_in (Or.inr (Or.inr (Or.inl ⟨rfl, a, b⟩)))
theorem cn11 {w : Vw} {o : Int} (v : vOp (w 10) o) : cnV w 11 o = w 11 o := cn_in (Or.inr (Or.inr (Or.inr (Or.inl ⟨Or.inl rfl, v⟩))))
theorem cn12 {w : Vw} {o : Int} (v : vOp (w 10) o) : cnV w 12 o = w 12 o := cn_in (Or.inr (Or.inr (Or.inr (Or.inl ⟨Or.inr rfl, v⟩))))
theorem cn13 {w : Vw} {m : Int} (a : 0 ≤ m) (b : m < 4) : cnV w 13 m = w 13 m := cn_in (Or.inr (Or.inr (Or.inr (Or.inr (Or.inl ⟨rfl, a, b⟩)))))
theorem cn14 {w : Vw} {x : Int} (a : 0 ≤ x) (b : x < 16) (c : x % 4 < w 13 (x / 4)) : cnV w 14 x = w 14 x := cn_in (Or.inr (Or.inr (Or.inr (Or.inr (Or.inr ⟨rfl, a, b, c⟩)))))
theorem wWF_j {w : Vw} (h : wWF w) {o : Int} (v : vOp (w 10) o) : 0 ≤ o / 4 ∧ o / 4 < w 5 0 := by
  have j := vOp_j v
  refine ⟨j.1, ?_⟩
  have q := (h.1.2.1 (o / 4) j.1 j.2.1).2.2
  have := v.2.2
  have := v.1
  rcases Int.lt_or_le (o / 4) (w 5 0) with c | c
  · exact c
  · have := q c
    omega
theorem cn_ag {w : Vw} (h : wWF w) : wAG w (cnV w) := by
  have j4 := h.1.1
  refine ⟨(cn5 w).symm, fun j a b => (cn10 a b).symm, fun o v => ⟨(cn11 v).symm, (cn12 v).symm, (cn8 (wWF_j h v).1 (wWF_j h v).2).symm⟩, fun m a b => (cn13 a b).symm, fun m k a b c d => ?_⟩
  have l := (h.1.2.2.2.2.1 m a b).2
  refine (cn14 (by omega) (by omega) ?_).symm
  rw [show (4 * m + k) % 4 = k by omega, show (4 * m + k) / 4 = m by omega]
  exact d
theorem cn_wf {w : Vw} (h : wWF w) : wWF (cnV w) := by
  refine ⟨(cn_ag h).wf h.1, fun j a b => ?_⟩
  rw [cn5] at b
  rw [cn8 a b, cn9 a b]
  exact h.2 j a b
theorem cn_eq {w w' : Vw} (e5 : w 5 0 = w' 5 0) (e8 : ∀ j, 0 ≤ j → j < w 5 0 → w 8 j = w' 8 j ∧ w 9 j = w' 9 j) (e10 : ∀ j, 0 ≤ j → j < 4 → w 10 j = w' 10 j) (e11 : ∀ o, vOp (w 10) o → w 11 o = w' 11 o ∧ w 12 o = w' 12 o) (e13 : ∀ m, 0 ≤ m → m < 4 → w 13 m = w' 13 m) (e14 : ∀ x, 0 ≤ x → x < 16 → x % 4 < w 13 (x / 4) → w 14 x = w' 14 x) : cnV w = cnV w' := by
  have hv : ∀ o, vOp (w 10) o ↔ vOp (w' 10) o := vOp_cg e10
  have h13 : ∀ x, 0 ≤ x → x < 16 → w 13 (x / 4) = w' 13 (x / 4) := fun x a b => e13 _ (by omega) (by omega)
  funext t x
  have hi : inV w t x ↔ inV w' t x := by
    unfold inV
    rw [hv x, ← e5]
    constructor
    · rintro (q | q | q | q | q | ⟨q, a, b, c⟩)
      · exact Or.inl q
      · exact Or.inr (Or.inl q)
      · exact Or.inr (Or.inr (Or.inl q))
      · exact Or.inr (Or.inr (Or.inr (Or.inl q)))
      · exact Or.inr (Or.inr (Or.inr (Or.inr (Or.inl q))))
      · exact Or.inr (Or.inr (Or.inr (Or.inr (Or.inr ⟨q, a, b, by rw [← h13 x a b]; exact c⟩))))
    · rintro (q | q | q | q | q | ⟨q, a, b, c⟩)
      · exact Or.inl q
      · exact Or.inr (Or.inl q)
      · exact Or.inr (Or.inr (Or.inl q))
      · exact Or.inr (Or.inr (Or.inr (Or.inl q)))
      · exact Or.inr (Or.inr (Or.inr (Or.inr (Or.inl q))))
      · exact Or.inr (Or.inr (Or.inr (Or.inr (Or.inr ⟨q, a, b, by rw [h13 x a b]; exact c⟩))))
  by_cases c : inV w t x
  · rw [cn_in c, cn_in (hi.mp c)]
    rcases c with ⟨rfl, rfl⟩ | ⟨rfl | rfl, a, b⟩ | ⟨rfl, a, b⟩ | ⟨rfl | rfl, a⟩ | ⟨rfl, a, b⟩ | ⟨rfl, a, b, c⟩
    · exact e5
    · exact (e8 x a b).1
    · exact (e8 x a b).2
    · exact e10 x a b
    · exact (e11 x a).1
    · exact (e11 x a).2
    · exact e13 x a b
    · exact e14 x a b c
  · rw [cn_out c, cn_out (fun q => c (hi.mpr q))]
theorem cn_cn {w : Vw} (h : wWF w) : cnV (cnV w) = cnV w := by
  have ag := cn_ag h
  refine (cn_eq ag.1 (fun j a b => ⟨(cn8 a b).symm, (cn9 a b).symm⟩) ag.2.1 (fun o v => ⟨(ag.2.2.1 o v).1, (ag.2.2.1 o v).2.1⟩) ag.2.2.2.1 (fun x a b c => (cn14 a b c).symm)).symm
theorem cv_wf {σ : Mem} {i : Nat} (h : sWF σ i) : wWF (cv σ i) := cn_wf (sWF_w.mp h)
theorem cv_ag {σ : Mem} {i : Nat} (h : sWF σ i) : AG (σ 5 i 0) (cv σ i 5 0) (σ 10 i) (cv σ i 10) (σ 11 i) (cv σ i 11) (σ 12 i) (cv σ i 12) (σ 8 i) (cv σ i 8) (σ 13 i) (cv σ i 13) (σ 14 i) (cv σ i 14) := cn_ag (sWF_w.mp h)
/-- the same cells, the same view -/
theorem cv_m {σ σ' : Mem} {i i' : Nat} (h : sWF σ i) (hc : ∀ t j, (t = 5 ∧ j = 0) ∨ (8 ≤ t ∧ t ≤ 14 ∧ 0 ≤ j ∧ j < (if t = 11 ∨ t = 12 ∨ t = 14 then 16 else 4)) → σ' t i' j = σ t i j) : sWF σ' i' ∧ cv σ' i' = cv σ i := by
  have j4 := h.1.1.2
  have c5 : σ' 5 i' 0 = σ 5 i 0 := hc 5 0 (by omega)
  have c4 : ∀ t j, t = 8 ∨ t = 9 ∨ t = 10 ∨ t = 13 → 0 ≤ j → j < 4 → σ' t i' j = σ t i j := fun t j q a b => hc t j (Or.inr ⟨by omega, by omega, a, by rw [if_neg (by omega)]; exact b⟩)
  have c16 : ∀ t j, t = 11 ∨ t = 12 ∨ t = 14 → 0 ≤ j → j < 16 → σ' t i' j = σ t i j := fun t j q a b => hc t j (Or.inr ⟨by omega, by omega, a, by rw [if_pos q]; exact b⟩)
  have e : cv σ i = cv σ' i' := cn_eq (w := vwS σ i) (w' := vwS σ' i') c5.symm (fun j a b => ⟨(c4 8 j (by omega) a (by have : j < σ 5 i 0 := b; omega)).symm, (c4 9 j (by omega) a (by have : j < σ 5 i 0 := b; omega)).symm⟩) (fun j a b => (c4 10 j (by omega) a b).symm) (fun o v => ⟨(c16 11 o (by omega) v.1 v.2.1).symm, (c16 12 o (by omega) v.1 v.2.1).symm⟩) (fun m a b => (c4 13 m (by omega) a b).symm) (fun x a b _ => (c16 14 x (by omega) a b).symm)
  have ag : AG (σ 5 i 0) (σ' 5 i' 0) (σ 10 i) (σ' 10 i') (σ 11 i) (σ' 11 i') (σ 12 i) (σ' 12 i') (σ 8 i) (σ' 8 i') (σ 13 i) (σ' 13 i') (σ 14 i) (σ' 14 i') := by
    refine ⟨c5.symm, fun j a b => (c4 10 j (by omega) a b).symm, fun o v => ⟨(c16 11 o (by omega) v.1 v.2.1).symm, (c16 12 o (by omega) v.1 v.2.1).symm, (c4 8 _ (by omega) (vOp_j v).1 (vOp_j v).2.1).symm⟩, fun m a b => (c4 13 m (by omega) a b).symm, fun m k a b c e => ?_⟩
    have := (h.1.2.2.2.2.1 m a b).2
    exact (c16 14 _ (by omega) (by omega) (by omega)).symm
  refine ⟨⟨ag.wf h.1, fun j a b => ?_⟩, e.symm⟩
  rw [c5] at b
  rw [c4 8 j (by omega) a (by omega), c4 9 j (by omega) a (by omega)]
  exact h.2 j a b
/-! what the law's steps know of an object -/
abbrev Gh : Type := Vw × (List Vw × (Option Vw × ((Int → Int) × Int)))
def slt (σ : Mem) (d : Int) : Nat := 2 + ((σ 0 0 2 + 6 - d) % 6).toNat
def RCb (σ : Mem) : Prop := KPc σ ∧ KSc σ ∧ KRc σ
def GSh (hs : List Vw) (σ : Mem) : Prop := hsB σ ∧ σ 0 0 1 = hs.length ∧ ∀ (d : Nat) (w : Vw), hs[d]? = some w → sWF σ (slt σ d) ∧ cv σ (slt σ d) = w
def GSs (sv : Option Vw) (σ : Mem) : Prop := ∀ w, sv = some w → σ 35 0 0 ≠ 0 ∧ sWF σ 8 ∧ cv σ 8 = w
def GSp (tx : (Int → Int) × Int) (σ : Mem) : Prop := σ 2 0 1 = tx.2 ∧ (0 ≤ tx.2 ∧ tx.2 ≤ 80) ∧ ∀ x, x < tx.2 → σ 36 0 x = tx.1 x
def GS (g : Gh) (σ : Mem) : Prop := (sWF σ 0 ∧ cv σ 0 = g.1) ∧ GSh g.2.1 σ ∧ GSs g.2.2.1 σ ∧ GSp g.2.2.2 σ ∧ RCb σ
def hrg (t a : Nat) (x : Int) : Prop := t = 0 ∨ ((t = 5 ∨ (8 ≤ t ∧ t ≤ 14)) ∧ a ≠ 1) ∨ t = 35 ∨ t = 36 ∨ (t = 2 ∧ x = 1)
theorem cv_h {σ σ' : Mem} {i : Nat} (h : sWF σ i) (hi : i ≠ 1) (e : ∀ t a x, hrg t a x → σ' t a x = σ t a x) : sWF σ' i ∧ cv σ' i = cv σ i := cv_m h (fun t j q => e t i j (by unfold hrg; omega))
theorem GS_fr {g : Gh} {σ σ' : Mem} (h : GS g σ) (e : ∀ t a x, hrg t a x → σ' t a x = σ t a x) (c : RCb σ') : GS g σ' := by
  obtain ⟨⟨h1, h2⟩, ⟨h3, h4, h5⟩, h6, ⟨h7, h8, h9⟩, -⟩ := h
  have e0 : σ' 0 0 = σ 0 0 := funext fun x => e 0 0 x (Or.inl rfl)
  have es : ∀ d, slt σ' d = slt σ d := fun d => by unfold slt; rw [e0]
  refine ⟨⟨(cv_h h1 (by omega) e).1, (cv_h h1 (by omega) e).2.trans h2⟩, ⟨?_, ?_, fun d w q => ?_⟩, fun w q => ?_, ⟨?_, h8, fun k q => ?_⟩, c⟩
  · unfold hsB
    rw [e0]
    exact h3
  · rw [e0]
    exact h4
  · rw [es]
    obtain ⟨a, b⟩ := h5 d w q
    have n1 : slt σ d ≠ 1 := by unfold slt; omega
    exact ⟨(cv_h a n1 e).1, (cv_h a n1 e).2.trans b⟩
  · obtain ⟨a, b, c'⟩ := h6 w q
    refine ⟨?_, (cv_h b (by omega) e).1, (cv_h b (by omega) e).2.trans c'⟩
    rw [e 35 0 0 (by unfold hrg; omega)]
    exact a
  · rw [e 2 0 1 (by unfold hrg; omega)]
    exact h7
  · rw [e 36 0 k (by unfold hrg; omega)]
    exact h9 k q
theorem KSc_cg {σ σ' : Mem} (h : KSc σ) (hw : ∀ t, t = 8 ∨ t = 10 ∨ t = 11 ∨ t = 12 ∨ t = 13 ∨ t = 14 → σ' t 0 = σ t 0) (h4 : ∀ x, x = 1 ∨ x = 2 → σ' 4 0 x = σ 4 0 x) (h27 : σ' 27 0 = σ 27 0) : KSc σ' := by
  unfold KSc sBst at h ⊢
  rw [hw 8 (by omega), hw 10 (by omega), hw 11 (by omega), hw 12 (by omega), hw 13 (by omega), hw 14 (by omega), h4 1 (by omega), h4 2 (by omega), h27]
  exact h
theorem KRc_cg {σ σ' : Mem} (h : KRc σ) (hw : ∀ t, t = 8 ∨ t = 10 ∨ t = 11 ∨ t = 12 ∨ t = 13 ∨ t = 14 → σ' t 0 = σ t 0) (h4 : ∀ x, x = 1 ∨ x = 2 → σ' 4 1 x = σ 4 1 x) (h6 : ∀ x, 13 ≤ x → σ' 6 0 x = σ 6 0 x) (h27 : σ' 27 1 = σ 27 1) : KRc σ' := by
  unfold KRc sBrk at h ⊢
  rw [hw 8 (by omega), hw 10 (by omega), hw 11 (by omega), hw 12 (by omega), hw 13 (by omega), hw 14 (by omega), h4 1 (by omega), h4 2 (by omega), h27, h6 13 (by omega), h6 14 (by omega), h6 15 (by omega)]
  exact h
theorem KPc_cg {σ σ' : Mem} (h : KPc σ) (hw : ∀ t, t = 8 ∨ t = 10 ∨ t = 11 ∨ t = 12 ∨ t = 13 ∨ t = 14 ∨ t = 15 ∨ t = 16 ∨ t = 17 ∨ t = 21 ∨ t = 22 ∨ t = 37 → σ' t 0 = σ t 0) (h8 : σ' 1 0 8 = σ 1 0 8) (h3 : σ' 3 0 1 = σ 3 0 1) (h6 : σ' 6 0 8 = σ 6 0 8) (h9 : σ' 6 0 9 = σ 6 0 9) : KPc σ' := by
  rcases h with q | ⟨q, r⟩
  · exact Or.inl (by rw [h6]; exact q)
  · refine Or.inr ⟨by rw [h6]; exact q, ?_⟩
    rcases r with ⟨r, s⟩ | ⟨r, s⟩
    · exact Or.inl ⟨by rw [h9]; exact r, PK_cg hw h8 h3 s⟩
    · exact Or.inr ⟨by rw [h9]; exact r, fun h z => s h ((sH_cg (fun t q => hw t (by omega))).mp z)⟩
theorem GS_kn {g : Gh} {σ σ1 : Mem} (h : GS g σ) (hF : FrG pKn σ σ1) (hK : KPc σ1) : GS g σ1 := GS_fr h (fun t a x q => hF t a x (by unfold hrg at q; unfold pKn pPa; omega)) ⟨hK, KSc_cg h.2.2.2.2.2.1 (fun t q => pKn_f hF t 0 (by omega)) (fun x q => by rw [pKn_f hF 4 0 (by omega)]) (pKn_f hF 27 0 (by omega)), KRc_kn hF h.2.2.2.2.2.2⟩
/-- the caches' cells are as they were -/
theorem RCb_e {σ σ' : Mem} (h : RCb σ) (e : ∀ t a x, (a = 0 ∧ (t = 8 ∨ (10 ≤ t ∧ t ≤ 17) ∨ t = 21 ∨ t = 22 ∨ t = 37)) ∨ (t = 1 ∧ a = 0 ∧ x = 8) ∨ (t = 3 ∧ a = 0 ∧ x = 1) ∨ (t = 6 ∧ a = 0 ∧ 8 ≤ x) ∨ (t = 4 ∧ (x = 1 ∨ x = 2)) ∨ t = 27 → σ' t a x = σ t a x) : RCb σ' := by
  obtain ⟨h1, h2, h3⟩ := h
  refine ⟨KPc_cg h1 (fun t q => funext fun x => e t 0 x (by omega)) (e 1 0 8 (by omega)) (e 3 0 1 (by omega)) (e 6 0 8 (by omega)) (e 6 0 9 (by omega)), KSc_cg h2 (fun t q => funext fun x => e t 0 x (by omega)) (fun x q => e 4 0 x (by omega)) (funext fun x => e 27 0 x (by omega)), KRc_cg h3 (fun t q => funext fun x => e t 0 x (by omega)) (fun x q => e 4 1 x (by omega)) (fun x q => e 6 0 x (by omega)) (funext fun x => e 27 1 x (by omega))⟩
