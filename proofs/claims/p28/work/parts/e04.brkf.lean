/-! what the law sees of breakdowns -/
/-- heads under other releases: there, and not more than so much later -/
theorem head_to {V : Int → Prop} {P : Int → Int → Prop} {d r r' h' : Int → Int} {c : Int} (hV : ∀ o, V o → 0 ≤ o ∧ o < 16) (hr : ∀ o, V o → 0 ≤ r o) (H' : IsHead V P d r' h') (hc : ∀ o, V o → r o ≤ r' o + c) : ∃ h, IsHead V P d r h ∧ ∀ o, V o → h o ≤ h' o + c := by
  obtain ⟨g, a, b⟩ := sol_ex (V := V) (F := hOp V P d r) (B := fun o => h' o + c) (h := fun _ => 0) hV (hOp_m hV) (fun x hx o v => by
    rcases (hOp_is (P := P) (d := d) (r := r) hV x o).2.2 with q | ⟨k, vk, p, q⟩
    · rw [q]
      have := hc o v
      have := (H' o v).1
      show _ ≤ h' o + c
      omega
    · rw [q]
      have h1 : x k ≤ h' k + c := hx k vk
      have := (H' o v).2.1 k vk p
      show _ ≤ h' o + c
      omega) (fun o v => Int.le_trans (hr o v) (hOp_is hV _ o).1) (fun o v => by
    have := hc o v
    have := hr o v
    have := (H' o v).1
    show (0 : Int) ≤ h' o + c
    omega)
  exact ⟨g, (hOp_sol hV).mp a, b⟩
theorem lenR_to {st mc du rd rd' ln q : Int → Int} {L' c : Int} (c0 : 0 ≤ c) (h : lenR st mc du rd' ln q L') (hr : ∀ o, vOp st o → 0 ≤ rd o ∧ rd o ≤ rd' o + c) : ∃ L, lenR st mc du rd ln q L ∧ L ≤ L' + c := by
  obtain ⟨h', H', l0, l1, -⟩ := h
  obtain ⟨g, G, hg⟩ := head_to vOp_16 (fun o v => (hr o v).1) H' (fun o v => (hr o v).2)
  obtain ⟨M, a, b, e⟩ := max_ex (V := vOp st) vOp_16 (fun o => g o + du o)
  refine ⟨M, ⟨g, G, a, b, e⟩, ?_⟩
  rcases e with e | ⟨o, v, e⟩
  · omega
  · have := hg o v
    have := l1 o v
    omega
theorem lenR_rd {st mc du rd rd' ln q : Int → Int} {L : Int} (e : ∀ o, vOp st o → rd o = rd' o) (h : lenR st mc du rd ln q L) : lenR st mc du rd' ln q L := by
  obtain ⟨g, H, r⟩ := h
  exact ⟨g, fun o v => by
    have := H o v
    rw [e o v] at this
    exact this, r⟩
theorem aQo_r {J : Int} {st mc du ln q fs : Int → Int} (hW : WF J st mc du ln q) : aQo ln fs q q := fun m m0 m1 => ⟨PRM_r (fun k k' a b c d e => hW.2.2.2.2.2.2.1 m k k' m0 m1 a b c d e), fun _ _ _ => rfl⟩
noncomputable def rdV (v : Vw) (b t u : Int) : Int → Int := rdG (v 11) (v 12) (v 8) (hV v) b t u
noncomputable def fsV (v : Vw) (b t : Int) : Int → Int := fsG (v 10) (v 11) (v 12) (v 14) (hV v) (v 13) b t
theorem brk_hV {v : Vw} (hw : wWF v) {b t u : Int} (h : BrkF v b t u) : (∀ q, aQo (v 13) (fsV v b t) (v 14) q → ∀ L, lenR (v 10) (v 11) (v 12) (rdV v b t u) (v 13) q L → klA v b t u ≤ L) ∧ 0 ≤ klA v b t u ∧ aQo (v 13) (fsV v b t) (v 14) (kfA v b t u) ∧ lenR (v 10) (v 11) (v 12) (rdV v b t u) (v 13) (kfA v b t u) (klA v b t u) ∧ (∀ q, aQo (v 13) (fsV v b t) (v 14) q → lenR (v 10) (v 11) (v 12) (rdV v b t u) (v 13) q (klA v b t u) → ∀ m k, 0 ≤ m → m < 4 → 0 ≤ k → k < v 13 m → ahP (v 13) (kfA v b t u) q m k → kfA v b t u (4 * m + k) ≤ q (4 * m + k)) := by
  obtain ⟨⟨h0, H, hB⟩, hn⟩ := h
  have hB2 := (AG.refl (J := v 5 0) (re := v 8)).brk hw.1 H (fun o vo => (hV_un hw H vo).symm) hB
  obtain ⟨a, b⟩ := hB2
  obtain ⟨b0, -, b1, b2, b3⟩ := b.resolve_left hn
  exact ⟨a, b0, b1, b2, b3⟩
theorem rdV_r {v : Vw} (hw : wWF v) {b t u o : Int} (t0 : 0 ≤ t) (tu : t ≤ u) (vo : vOp (v 10) o) : 0 ≤ rdV v b t u o ∧ v 8 (o / 4) ≤ rdV v b t u o ∧ rdV v b t u o ≤ v 8 (o / 4) + u := by
  have r := (wWF_op hw vo).2.2.2.2.2.2
  unfold rdV rdG blim
  by_cases s : stG (v 11) (v 12) (hV v) b t o
  · rw [cif_1 s]
    omega
  · rw [cif_0 s]
    by_cases z : v 11 o = b
    · rw [if_pos z]
      split <;> omega
    · rw [if_neg z]
      split <;> omega
theorem rdV_m {v : Vw} {b t u u' : Int} (uu : u ≤ u') (o : Int) : rdV v b t u o ≤ rdV v b t u' o := by
  unfold rdV rdG blim
  by_cases s : stG (v 11) (v 12) (hV v) b t o
  · rw [cif_1 s, cif_1 s]
    exact Int.le_refl _
  · rw [cif_0 s, cif_0 s]
    by_cases z : v 11 o = b
    · rw [if_pos z, if_pos z]
      split <;> split <;> omega
    · rw [if_neg z, if_neg z]
      exact Int.le_refl _
/-- a later end of the breakdown is no better -/
theorem kl_mono {v : Vw} (hw : wWF v) {b t u u' : Int} (t0 : 0 ≤ t) (tu : t ≤ u) (uu : u ≤ u') (h : BrkF v b t u) (h' : BrkF v b t u') : klA v b t u ≤ klA v b t u' := by
  obtain ⟨a, -, -, -, -⟩ := brk_hV hw h
  obtain ⟨-, -, b1, b2, -⟩ := brk_hV hw h'
  obtain ⟨L, c1, c2⟩ := lenR_to (c := 0) (Int.le_refl 0) b2 (fun o vo => ⟨(rdV_r (b := b) hw t0 tu vo).1, by
    have := rdV_m (v := v) (b := b) (t := t) uu o
    omega⟩)
  have := a _ b1 L c1
  omega
/-- the plan as it is, later by the breakdown's end, would do -/
theorem kl_up {v : Vw} (hw : wWF v) (hp : pos v) {b t u : Int} (t0 : 0 ≤ t) (tu : t ≤ u) (h : BrkF v b t u) : 0 ≤ klA v b t u ∧ klA v b t u ≤ LV v + u := by
  obtain ⟨a, b0, -, -, -⟩ := brk_hV hw h
  obtain ⟨L, c1, c2⟩ := lenR_to (c := u) (by omega) (lenQ_R.mp (LV_lenQ hw hp)) (fun o vo => ⟨(rdV_r (b := b) hw t0 tu vo).1, (rdV_r hw t0 tu vo).2.2⟩)
  have := a _ (aQo_r hw.1) L c1
  exact ⟨b0, by omega⟩
/-- what stays has its place -/
theorem kf_st {v : Vw} (hw : wWF v) (hp : pos v) {b t u m k o : Int} (h : BrkF v b t u) (m0 : 0 ≤ m) (m1 : m < 4) (k0 : 0 ≤ k) (k1 : k < v 13 m) (vo : vOp (v 10) o) (hm : v 11 o = m) (hj : o / 4 = v 14 (4 * m + k)) (hs : hV v o + v 12 o ≤ t) : kfA v b t u (4 * m + k) = v 14 (4 * m + k) := by
  obtain ⟨-, -, b1, -, -⟩ := brk_hV hw h
  have H := (pos_f hw hp).1
  have e : oq (v 10) (v 11) (v 14) m k = o := by
    obtain ⟨x1, x2, x3⟩ := oq_v hw.1 m0 m1 k0 k1
    exact hw.1.2.2.2.1 _ _ x1 vo (by rw [x3, hj]) (by rw [x2, hm])
  have f := ((fsG_r (b := b) (t := t) hw.1 H m0 m1).2 k k0 k1).mpr (by
    rw [e]
    exact Or.inl hs)
  exact (b1 m m0 m1).2 k k0 f
/-- behind the plan's end everything stays -/
theorem kf_end {v : Vw} (hw : wWF v) (hp : pos v) {b t u : Int} (tl : LV v ≤ t) (h : BrkF v b t u) : klA v b t u = LV v ∧ ∀ m k, 0 ≤ m → m < 4 → 0 ≤ k → k < v 13 m → kfA v b t u (4 * m + k) = v 14 (4 * m + k) := by
  obtain ⟨a, b0, b1, b2, -⟩ := brk_hV hw h
  have f := pos_f hw hp
  have en : ∀ o, vOp (v 10) o → hV v o + v 12 o ≤ t := fun o vo => by
    have := f.2.2.1.2.1 o vo
    have := (hV_b hw hp).1 o vo
    dsimp only at *
    omega
  have same : ∀ m k, 0 ≤ m → m < 4 → 0 ≤ k → k < v 13 m → kfA v b t u (4 * m + k) = v 14 (4 * m + k) := fun m k m0 m1 k0 k1 => by
    obtain ⟨x1, x2, x3⟩ := oq_v hw.1 m0 m1 k0 k1
    exact kf_st hw hp h m0 m1 k0 k1 x1 x2 x3 (en _ x1)
  refine ⟨?_, same⟩
  have er : ∀ o, vOp (v 10) o → rdV v b t u o = v 8 (o / 4) := fun o vo => cif_1 (Or.inl (en o vo))
  have ag : AG (v 5 0) (v 5 0) (v 10) (v 10) (v 11) (v 11) (v 12) (v 12) (v 8) (v 8) (v 13) (v 13) (kfA v b t u) (v 14) := ⟨rfl, fun _ _ _ => rfl, fun _ _ => ⟨rfl, rfl, rfl⟩, fun _ _ _ => rfl, fun m k x1 x2 x3 x4 => same m k x1 x2 x3 x4⟩
  have q : lenQ (v 10) (v 11) (v 12) (v 8) (v 13) (v 14) (klA v b t u) := lenQ_R.mpr (lenR_cg ag (aQo_wf hw.1 b1) er b2)
  exact (lenQ_LV hw q).2.symm
/-- at the beginning nothing stays: the best plan -/
theorem kf_0 {v : Vw} (hw : wWF v) (hp : pos v) {b : Int} (h : BrkF v b 0 0) : leA v = klA v b 0 0 ∧ ∀ m k, 0 ≤ m → m < 4 → 0 ≤ k → k < v 13 m → bfA v (4 * m + k) = kfA v b 0 0 (4 * m + k) := by
  have H := (pos_f hw hp).1
  have hn := h.2
  have no : ∀ o, vOp (v 10) o → ¬ stG (v 11) (v 12) (hV v) b 0 o := fun o vo s => by
    have := (hV_b hw hp).1 o vo
    have := wWF_op hw vo
    rcases s with s | ⟨-, s⟩ <;> omega
  have f0 : ∀ m, 0 ≤ m → m < 4 → fsV v b 0 m = 0 := fun m m0 m1 => by
    have fr := fsG_r (b := b) (t := 0) hw.1 H m0 m1
    by_cases z : 0 < fsV v b 0 m
    · have l : 0 < v 13 m := Int.lt_of_lt_of_le z fr.1.2
      have x := oq_v hw.1 m0 m1 (Int.le_refl 0) l
      exact absurd ((fr.2 0 (Int.le_refl 0) l).mp z) (no _ x.1)
    · have := fr.1.1
      unfold fsV at z ⊢
      omega
  have er : ∀ o, vOp (v 10) o → rdV v b 0 0 o = v 8 (o / 4) := fun o vo => by
    have := rdV_r (b := b) hw (Int.le_refl 0) (Int.le_refl 0) vo
    omega
  obtain ⟨a, b0, b1, b2, b3⟩ := brk_hV hw h
  have z : bstS (v 10) (v 11) (v 12) (v 8) (v 13) (v 14) (klA v b 0 0) (kfA v b 0 0) := by
    rw [bstS_G]
    refine ⟨fun q hq L hL => a q ((aQo_fs f0).mpr hq) L (lenR_rd (fun o vo => (er o vo).symm) hL), Or.inr ⟨b0, ?_, (aQo_fs f0).mp b1, lenR_rd er b2, fun q hq hL => b3 q ((aQo_fs f0).mpr hq) (lenR_rd (fun o vo => (er o vo).symm) hL)⟩⟩
    have := kl_up hw hp (Int.le_refl 0) (Int.le_refl 0) h
    have := (hV_b hw hp).2
    omega
  have r := bst_v hw z hn
  exact ⟨r.2.1, r.2.2⟩
