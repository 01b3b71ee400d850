theorem aQo_fs {ln fs fs' q0 q : Int → Int} (e : ∀ m, 0 ≤ m → m < 4 → fs m = fs' m) : aQo ln fs q0 q ↔ aQo ln fs' q0 q := ⟨fun h m a b => by rw [← e m a b]; exact h m a b, fun h m a b => by rw [e m a b]; exact h m a b⟩
theorem bstG_fs {st mc du rd ln fs fs' q0 f : Int → Int} {le : Int} (e : ∀ m, 0 ≤ m → m < 4 → fs m = fs' m) (h : bstG st mc du rd ln fs q0 le f) : bstG st mc du rd ln fs' q0 le f := by
  obtain ⟨h1, h2⟩ := h
  refine ⟨fun q a => h1 q ((aQo_fs e).mpr a), ?_⟩
  rcases h2 with z | ⟨a1, a2, a3, a4, a5⟩
  · exact Or.inl z
  · exact Or.inr ⟨a1, a2, (aQo_fs e).mp a3, a4, fun q a => a5 q ((aQo_fs e).mpr a)⟩
theorem stG_cg {mc mc' du du' h h' : Int → Int} {b t o : Int} (e1 : mc o = mc' o) (e2 : du o = du' o) (e3 : h o = h' o) : stG mc du h b t o ↔ stG mc' du' h' b t o := by
  unfold stG
  rw [e1, e2, e3]
theorem cif_cg {p q : Prop} (e : p ↔ q) (a b : Int) : cif p a b = cif q a b := by
  rw [propext e]
theorem AG.brk {J J' : Int} {st st' mc mc' du du' re re' ln ln' q q' : Int → Int} (ag : AG J J' st st' mc mc' du du' re re' ln ln' q q') (hW : WF J st mc du ln q) {h0 h0' f : Int → Int} {b t u le : Int} (H : wH st mc du re ln q h0) (e : ∀ o, vOp st o → h0 o = h0' o) (hB : bstG st mc du (rdG mc du re h0 b t u) ln (fsG st mc du q h0 ln b t) q le f) : bstG st' mc' du' (rdG mc' du' re' h0' b t u) ln' (fsG st' mc' du' q' h0' ln' b t) q' le f := by
  have hfr := fun m a c => fsG_r (b := b) (t := t) hW H (m := m) a c
  have sg : ∀ o, vOp st o → (stG mc du h0 b t o ↔ stG mc' du' h0' b t o) := fun o v => stG_cg (ag.2.2.1 o v).1 (ag.2.2.1 o v).2.1 (e o v)
  refine bstG_fs (fs := fsG st mc du q h0 ln b t) (fun m m0 m1 => ?_) (bstG_cg ag hW (fun o v => ?_) (fun m a c => (hfr m a c).1.2) hB)
  · unfold fsG
    rw [ag.2.2.2.1 m m0 m1]
    have l := hW.2.2.2.2.1 m m0 m1
    rw [ag.2.2.2.1 m m0 m1] at l
    refine sm_cg _ (fun i hi => ?_)
    have i1 : (i : Int) < ln m := by
      rw [ag.2.2.2.1 m m0 m1]
      omega
    have ee := ag.oq hW m0 m1 (show (0 : Int) ≤ i by omega) i1
    have v := (oq_v hW m0 m1 (show (0 : Int) ≤ i by omega) i1).1
    rw [← ee, propext (sg _ v)]
  · unfold rdG
    rw [cif_cg (sg o v), (ag.2.2.1 o v).1, (ag.2.2.1 o v).2.2]
theorem AG.brkS {J J' : Int} {st st' mc mc' du du' re re' ln ln' q q' : Int → Int} (ag : AG J J' st st' mc mc' du du' re re' ln ln' q q') (hW : WF J st mc du ln q) {f : Int → Int} {b t u le : Int} (h : brkS st mc du re ln q b t u le f) : brkS st' mc' du' re' ln' q' b t u le f := by
  obtain ⟨h0, H, hB⟩ := h
  exact ⟨h0, (ag.H hW).mp H, ag.brk hW H (fun _ _ => rfl) hB⟩
theorem AG.refl {J : Int} {st mc du re ln q : Int → Int} : AG J J st st mc mc du du re re ln ln q q := ⟨rfl, fun _ _ _ => rfl, fun _ _ => ⟨rfl, rfl, rfl⟩, fun _ _ _ => rfl, fun _ _ _ _ _ _ => rfl⟩
theorem brkS_un {J : Int} {st mc du re ln q0 f f' : Int → Int} {b t u le le' : Int} (hW : WF J st mc du ln q0) (hre : ∀ o, vOp st o → 0 ≤ re (o / 4)) (h : brkS st mc du re ln q0 b t u le f) (h' : brkS st mc du re ln q0 b t u le' f') (hn : le ≠ 1000000) : le = le' ∧ ∀ m k, 0 ≤ m → m < 4 → 0 ≤ k → k < ln m → f (4 * m + k) = f' (4 * m + k) := by
  obtain ⟨h0, H, hB⟩ := h
  obtain ⟨h0', H', hB'⟩ := h'
  have e : ∀ o, vOp st o → h0 o = h0' o := fun o v => head_unique (fun o v => (hW.2.2.1 o v).2.2.1) hre H H' v
  exact bstG_un (fun m a c => (hW.2.2.2.2.1 m a c).2) (AG.brk (AG.refl (re := re)) hW H e hB) hB' hn
/-! the class's breakdown -/
/-- that a staying one's order is decided, and nothing else -/
def a0B (σ : Mem) (c : Int → Int) (on a0 : Int → Int) : Prop := ∀ m' k' b', 0 ≤ m' → m' < 4 → 0 ≤ k' → k' < 4 → 0 ≤ b' → b' < 4 → 0 ≤ on (4 * m' + k') → (hasB (a0 (on (4 * m' + k'))) b' ↔ bq σ 0 m' (c m') b' k')
theorem a0B_to {σ : Mem} {c on a0 st mc du rd ln q : Int → Int} {J : Int} (hW : WF J st mc du ln (σ 14 0)) (hB : NB st mc du rd on) (hc : ∀ m, 0 ≤ m → m < 4 → 0 ≤ c m ∧ c m ≤ ln m) (ha : a0B σ c on a0) (a : aQo ln c (σ 14 0) q) : sbA st mc a0 (Cqo mc ln q) := by
  intro o' o v' v hm hb
  obtain ⟨m0, m1, -⟩ := hW.2.2.1 o v
  have hWq := aQo_wf hW a
  have on' : on (4 * mc o + o / 4) = o := (hB.2.1 o v).2.2.2.2.2.2
  have j := vOp_j v
  have j' := vOp_j v'
  have x := ha (mc o) (o / 4) (o' / 4) m0 m1 j.1 j.2.1 j'.1 j'.2.1 (by rw [on']; exact v.1)
  rw [on'] at x
  obtain ⟨p, p0, p1, e, hne⟩ := x.mp hb
  have hcm := hc (mc o) m0 m1
  have same : ∀ k, 0 ≤ k → k < c (mc o) → q (4 * mc o + k) = σ 14 0 (4 * mc o + k) := (a (mc o) m0 m1).2
  -- the place of o'
  have q' := plo_of hWq v'
  rw [hm] at q'
  have ee := (oq_v hWq m0 m1 q'.1 q'.2.1).2.2
  rw [q'.2.2] at ee
  have e1 : plo mc ln q o' = p := hWq.2.2.2.2.2.2.1 (mc o) _ p m0 m1 q'.1 q'.2.1 p0 (by omega) (by rw [← ee, same p p0 p1, e])
  have qo := plo_of hWq v
  have eo := (oq_v hWq m0 m1 qo.1 qo.2.1).2.2
  rw [qo.2.2] at eo
  unfold Cqo
  rw [e1]
  rcases Int.lt_or_le p (plo mc ln q o) with z | z
  · exact z
  · exfalso
    refine hne (plo mc ln q o) qo.1 z ?_
    rw [← same _ qo.1 (by omega), ← eo]
theorem a0B_fr {σ : Mem} {c on a0 st mc du rd ln q : Int → Int} {J : Int} (hW : WF J st mc du ln (σ 14 0)) (hB : NB st mc du rd on) (hc : ∀ m, 0 ≤ m → m < 4 → 0 ≤ c m ∧ c m ≤ ln m) (ha : a0B σ c on a0) (a : aQo ln (fun _ => 0) (σ 14 0) q) (hs : sbA st mc a0 (Cqo mc ln q)) : aQo ln c (σ 14 0) q := by
  intro m m0 m1
  have hWq := aQo_wf hW a
  have hcm := hc m m0 m1
  refine ⟨(a m m0 m1).1, ?_⟩
  have key : ∀ (n : Nat) (k : Int), 0 ≤ k → k < c m → k < n → q (4 * m + k) = σ 14 0 (4 * m + k) := by
    intro n
    induction n with
    | zero => intro k a b d; omega
    | succ n ih =>
      intro k k0 k1 kn
      by_cases z : k < n
      · exact ih k k0 k1 z
      have ek : k = n := by omega
      have sm : ∀ i, 0 ≤ i → i < k → q (4 * m + i) = σ 14 0 (4 * m + i) := fun i i0 i1 => ih i i0 (by omega) (by omega)
      -- the operation x at the place k of q, and o' at the place k of q0
      obtain ⟨xv, xm, xj⟩ := oq_v hWq m0 m1 k0 (show k < ln m by omega)
      obtain ⟨ov, om, oj⟩ := oq_v hW m0 m1 k0 (show k < ln m by omega)
      have px := plo_of hW xv
      rw [xm] at px
      have pj := (oq_v hW m0 m1 px.1 px.2.1).2.2
      rw [px.2.2, xj] at pj
      -- its place in q0
      rcases (show plo mc ln (σ 14 0) (oq st mc q m k) < k ∨ plo mc ln (σ 14 0) (oq st mc q m k) = k ∨ k < plo mc ln (σ 14 0) (oq st mc q m k) by omega) with w | w | w
      · exfalso
        have := hWq.2.2.2.2.2.2.1 m k (plo mc ln (σ 14 0) (oq st mc q m k)) m0 m1 k0 (by omega) px.1 (by omega) (by rw [sm _ px.1 w, pj])
        omega
      · rw [w] at pj
        exact pj
      · exfalso
        -- o' stands ahead of x
        have onx : on (4 * m + oq st mc q m k / 4) = oq st mc q m k := by
          have := (hB.2.1 _ xv).2.2.2.2.2.2
          rw [xm] at this
          exact this
        have jx := vOp_j xv
        have jo := vOp_j ov
        have h := ha m (oq st mc q m k / 4) (oq st mc (σ 14 0) m k / 4) m0 m1 jx.1 jx.2.1 jo.1 jo.2.1 (by rw [onx]; exact xv.1)
        rw [onx] at h
        have hb := h.mpr ⟨k, k0, k1, oj.symm, fun p' p0 p1 e => by
          have := hW.2.2.2.2.2.2.1 m p' (plo mc ln (σ 14 0) (oq st mc q m k)) m0 m1 p0 (by omega) px.1 px.2.1 (by rw [e, xj, pj])
          omega⟩
        have hC := hs _ _ ov xv (by rw [om, xm]) hb
        unfold Cqo at hC
        rw [plo_oq hWq m0 m1 k0 (by omega)] at hC
        have po := plo_of hWq ov
        rw [om] at po
        have qj := (oq_v hWq m0 m1 po.1 po.2.1).2.2
        rw [po.2.2, oj] at qj
        have := hW.2.2.2.2.2.2.1 m k (plo mc ln q (oq st mc (σ 14 0) m k)) m0 m1 k0 (by omega) po.1 (by omega) (by rw [qj, sm _ po.1 hC])
        omega
  intro k k0 k1
  exact key (k + 1).toNat k k0 k1 (by omega)
/-- with the plan as it is a breakdown is outlasted -/
theorem brk_sol {J : Int} {st mc du re ln q0 h0 rd : Int → Int} (hW : WF J st mc du ln q0) (hre : ∀ o, vOp st o → 0 ≤ re (o / 4) ∧ re (o / 4) ≤ 50) (H : wH st mc du re ln q0 h0) (hrd : ∀ o, vOp st o → 0 ≤ rd o ∧ rd o ≤ 400) : Sol st mc du rd 800 (Cqo mc ln q0) := by
  have hd : ∀ o, vOp st o → 1 ≤ du o ∧ du o ≤ 20 := fun o v => (hW.2.2.1 o v).2.2
  have HQ : IsHead (vOp st) (pA mc (Cqo mc ln q0)) du (fun o => re (o / 4)) h0 := (wQ_head hW).mpr H
  have p0 : ∀ o, vOp st o → 0 ≤ h0 o := fun o v => Int.le_trans (hre o v).1 (H o v).1
  have bd := head_bd (b := 50) vOp_16 (fun o v => ⟨(hd o v).1, (hd o v).2, (hre o v).2⟩) H p0
  obtain ⟨g, a, c⟩ := sol_ex (V := vOp st) (F := hOp (vOp st) (pA mc (Cqo mc ln q0)) du rd) (B := fun o => 400 + h0 o) (h := fun _ => 0) vOp_16 (hOp_m vOp_16) (fun x hx o v => by
    rcases (hOp_is (P := pA mc (Cqo mc ln q0)) (d := du) (r := rd) vOp_16 x o).2.2 with q | ⟨k, vk, p, q⟩
    · rw [q]
      have := hrd o v
      have := p0 o v
      show _ ≤ 400 + h0 o
      omega
    · rw [q]
      have h1 := hx k vk
      have h1 : x k ≤ 400 + h0 k := h1
      have := (HQ o v).2.1 k vk p
      show _ ≤ 400 + h0 o
      omega) (fun o v => Int.le_trans (hrd o v).1 (hOp_is vOp_16 _ o).1) (fun o v => by
    have := p0 o v
    show (0 : Int) ≤ 400 + h0 o
    omega)
  refine Sol_of (g := g) (fun x y vx vy ne hm => ?_) ((hOp_sol vOp_16).mp a) (fun o v => ?_)
  · unfold Cqo
    rcases (show plo mc ln q0 x < plo mc ln q0 y ∨ plo mc ln q0 y < plo mc ln q0 x ∨ plo mc ln q0 x = plo mc ln q0 y by omega) with z | z | z
    · exact Or.inl z
    · exact Or.inr z
    · exact absurd (plo_ne hW vx vy hm z) ne
  · have h1 := c o v
    have h1 : g o ≤ 400 + h0 o := h1
    have := bd o v
    have := hd o v
    omega
