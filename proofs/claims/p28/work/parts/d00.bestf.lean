/-! what the law sees of the best plan -/
theorem WF_prm {J : Int} {st mc du ln q q' : Int → Int} (h : WF J st mc du ln q) (h' : WF J st mc du ln q') {m : Int} (m0 : 0 ≤ m) (m1 : m < 4) : PRM (ln m) (fun k => q' (4 * m + k)) (fun k => q (4 * m + k)) := by
  have two : ∀ {q q' : Int → Int}, WF J st mc du ln q → WF J st mc du ln q' → ∀ k, 0 ≤ k → k < ln m → ∃ k', 0 ≤ k' ∧ k' < ln m ∧ q' (4 * m + k) = q (4 * m + k') := fun {q q'} h h' k k0 k1 => by
    obtain ⟨-, -, o, vo, e, em⟩ := h'.2.2.2.2.2.1 m k m0 m1 k0 k1
    obtain ⟨k', a, b, c⟩ := h.2.2.2.2.2.2.2 o vo
    rw [em] at b c
    exact ⟨k', a, b, by rw [← e, c]⟩
  refine ⟨fun k a b => two h h' k a b, fun k a b => ?_, fun k k' a b c d e => h'.2.2.2.2.2.2.1 m k k' m0 m1 a b c d e⟩
  obtain ⟨k', x, y, z⟩ := two h' h k a b
  exact ⟨k', x, y, z.symm⟩
theorem WF_aQo {J : Int} {st mc du ln q q' : Int → Int} (h : WF J st mc du ln q) (h' : WF J st mc du ln q') : aQo ln (fun _ => 0) q q' := fun m m0 m1 => ⟨WF_prm h h' m0 m1, fun k a b => absurd (show k < 0 from b) (by omega)⟩
/-- work is done after the readiness, one unit a turn; what is done counts for the bound -/
theorem JR_ge {e : Int → Prop} {p r q : Int → Int} (hp : ∀ k, 0 ≤ k → k < 4 → e k → 1 ≤ p k) : ∀ {t : Nat} {l : Int → Int} {g : Int}, JR e p r q t l g → ∀ k, 0 ≤ k → k < 4 → e k → (l k = p k ∨ r k + (p k - l k) ≤ t) ∧ l k ≤ p k ∧ (l k ≤ 0 → r k + p k + q k ≤ g) := by
  intro t
  induction t with
  | zero =>
    intro l g h k k0 k1 ek
    have a := (h.1 k k0 k1).1 ek
    have b := hp k k0 k1 ek
    exact ⟨Or.inl a, by omega, fun z => by omega⟩
  | succ t ih =>
    intro l' g' h k k0 k1 ek
    obtain ⟨l, g, c, hR, hc, hs⟩ := h
    obtain ⟨i1, i2, i3⟩ := ih hR k k0 k1 ek
    rcases hs with ⟨-, hl, hg⟩ | ⟨c0, hl, hg⟩
    · have e1 := hl k k0 k1
      rw [e1, hg]
      exact ⟨by omega, i2, i3⟩
    · have e1 := hl k k0 k1
      rcases hc with ⟨x, -⟩ | ⟨-, c1, jc, -, -⟩
      · omega
      · have gg : g ≤ g' := by
          rw [hg]
          split <;> omega
        by_cases kc : k = c
        · rw [if_pos kc] at e1
          subst kc
          have lt := jc.2.1
          have rt := jc.2.2
          refine ⟨Or.inr (by omega), by omega, fun z => ?_⟩
          have l1 : l k = 1 := by omega
          by_cases z2 : g < t + 1 + q k
          · rw [if_pos ⟨l1, z2⟩] at hg
            omega
          · rw [if_neg (fun w => z2 w.2)] at hg
            omega
        · rw [if_neg kc] at e1
          rw [e1]
          exact ⟨by omega, i2, fun z => by have := i3 z; omega⟩
theorem JB_ge {e : Int → Prop} {p r q : Int → Int} (hp : ∀ k, 0 ≤ k → k < 4 → e k → 1 ≤ p k) {B : Int} (h : JB e p r q B) {k : Int} (k0 : 0 ≤ k) (k1 : k < 4) (ek : e k) : r k + p k + q k ≤ B := by
  obtain ⟨t, l, hR, hz⟩ := h
  exact (JR_ge hp hR k k0 k1 ek).2.2 (hz k k0 k1)
/-- no plan is shorter than a machine's bound -/
theorem mbd_sol {v : Vw} (hw : wWF v) {u m B : Int} {C : Int → Int → Prop} (hC : Sol (v 10) (v 11) (v 12) (fun o => v 8 (o / 4)) u C) (h0 : 0 ≤ u) (m0 : 0 ≤ m) (m1 : m < 4) (hb : mbd (v 10) (v 11) (v 12) (v 8) m B) : B ≤ u := by
  obtain ⟨hf, h, t, H, T, hu, hcl⟩ := hC
  obtain ⟨tt, l, hR, -⟩ := hb
  obtain ⟨H0, T0, B0⟩ := hR0_is hw
  have hd : ∀ o, vOp (v 10) o → 1 ≤ v 12 o := fun o q => (wWF_op hw q).2.2.1
  have hr : ∀ o, vOp (v 10) o → 0 ≤ (fun o => v 8 (o / 4)) o := fun o q => (wWF_op hw q).2.2.2.2.2.2.1
  have mono : ∀ o' o, vOp (v 10) o' → vOp (v 10) o → pA (v 11) (fun _ _ => False) o' o → pA (v 11) C o' o := fun o' o _ _ p => p.elim Or.inl (fun z => z.2.elim)
  have V : ∀ k, 0 ≤ k → k < 4 → 0 ≤ mO (v 10) (v 11) m k → vOp (v 10) (mO (v 10) (v 11) m k) ∧ v 11 (mO (v 10) (v 11) m k) = m ∧ mO (v 10) (v 11) m k / 4 = k := fun k k0 k1 e => by
    rcases mO_v hw.1 (m := m) k0 k1 with ⟨a, -⟩ | ⟨-, b, c, d⟩
    · omega
    · exact ⟨b, c, d⟩
  refine (jps_le (h := fun k => h (mO (v 10) (v 11) m k)) (tl := fun k => t (mO (v 10) (v 11) m k)) h0 (fun k k0 k1 d => ?_) (fun k k' k0 k1 k2 d d' => ?_) hR).2
  · obtain ⟨v1, v2, v3⟩ := V k k0 k1 d
    have a := head_mono hd hr mono H0 H v1
    have b := tail_mono hd mono T0 T v1
    have c := B0 _ v1
    have e := hu _ v1
    have f := hd _ v1
    unfold hR0 at a c
    unfold tR0 at b c
    omega
  · obtain ⟨v1, v2, v3⟩ := V k k0 (by omega) d
    obtain ⟨w1, w2, w3⟩ := V k' (by omega) k2 d'
    have hne : mO (v 10) (v 11) m k ≠ mO (v 10) (v 11) m k' := by
      intro z
      rw [z] at v3
      omega
    rcases hf _ _ v1 w1 hne (v2.trans w2.symm) with c | c
    · exact Or.inl ((H _ w1).2.1 _ v1 (Or.inr ⟨v2.trans w2.symm, c⟩))
    · exact Or.inr ((H _ v1).2.1 _ w1 (Or.inr ⟨w2.trans v2.symm, c⟩))
/-- the best plan as a solution -/
theorem bst_sol {v : Vw} (hw : wWF v) (h : BstF v) : 0 ≤ leA v ∧ Sol (v 10) (v 11) (v 12) (fun o => v 8 (o / 4)) (leA v) (Cqo (v 11) (v 13) (bfA v)) := by
  obtain ⟨⟨h1, h2⟩, hn⟩ := h
  obtain ⟨l0, l1, a, hl, -⟩ := h2.resolve_left hn
  exact ⟨l0, lenR_sol (aQo_wf hw.1 a) (lenQ_R.mp hl) (Int.le_refl _)⟩
theorem bou_le {v : Vw} (hw : wWF v) (h : BstF v) {m B : Int} (m4 : m < 4) (hb : bndS (v 10) (v 11) (v 12) (v 8) m B) : B ≤ leA v := by
  obtain ⟨l0, hs⟩ := bst_sol hw h
  rcases hb with ⟨m0, b⟩ | ⟨-, b0, -, b | ⟨m', a, b, c⟩⟩
  · exact mbd_sol hw hs l0 m0 m4 b
  · omega
  · exact mbd_sol hw hs l0 a b c
/-- a job's release and its work are within the bound -/
theorem bou_job {v : Vw} (hw : wWF v) {B j : Int} (hb : bndS (v 10) (v 11) (v 12) (v 8) (-1) B) (j0 : 0 ≤ j) (j1 : j < 4) (hs : 0 < v 10 j) : v 8 j + wF (v 12) (4 * j) (v 10 j) ≤ B := by
  have s4 := st_w hw j0 j1
  have vo : vOp (v 10) (4 * j) := by
    have := vOp_i j0 j1 (Int.le_refl 0) hs s4.2.1
    rw [show 4 * j + 0 = 4 * j by omega] at this
    exact this
  have D := wWF_op hw vo
  rcases hb with ⟨z, -⟩ | ⟨-, -, hb, -⟩
  · omega
  · obtain ⟨B', h1, h2⟩ := hb (v 11 (4 * j)) D.1 D.2.1
    have e := mO_of hw.1 vo
    rw [show 4 * j / 4 = j by omega] at e
    have hp : ∀ k, 0 ≤ k → k < 4 → 0 ≤ mO (v 10) (v 11) (v 11 (4 * j)) k → 1 ≤ v 12 (mO (v 10) (v 11) (v 11 (4 * j)) k) := fun k k0 k1 q => by
      rcases mO_v hw.1 (m := v 11 (4 * j)) k0 k1 with ⟨a, -⟩ | ⟨-, b, -, -⟩
      · omega
      · exact (wWF_op hw b).2.2.1
    have g := JB_ge hp h1 j0 j1 (by rw [e]; omega)
    rw [e, show 4 * j / 4 = j by omega, show 4 * j % 4 = 0 by omega, wF_0, show v 10 j - 0 - 1 = v 10 j - 1 by omega] at g
    have f := wF_f (v 12) (4 * j) (v 10 j - 1) (by omega) (by omega)
    rw [show v 10 j - 1 + 1 = v 10 j by omega] at f
    omega
/-- no other order of the same jobs is shorter -/
theorem bst_min {v : Vw} (hw : wWF v) (h : BstF v) {f : Int → Int} (hf : WF (v 5 0) (v 10) (v 11) (v 12) (v 13) f) {L : Int} (hl : lenQ (v 10) (v 11) (v 12) (v 8) (v 13) f L) : leA v ≤ L := h.1.1 f (WF_aQo hw.1 hf) L hl
theorem bst_LV {v : Vw} (hw : wWF v) (h : BstF v) (hp : pos v) : leA v ≤ LV v := bst_min hw h hw.1 (LV_lenQ hw hp)
/-- the best plan can't be improved -/
theorem bst_imp {v : Vw} (hw : wWF v) (h : BstF v) {m x le : Int} (m0 : 0 ≤ m) (m1 : m < 4) (x0 : 0 ≤ x) (x1 : x + 1 < cnV (orV v (bfA v)) 13 m) (hl : lenQ (cnV (orV v (bfA v)) 10) (cnV (orV v (bfA v)) 11) (cnV (orV v (bfA v)) 12) (cnV (orV v (bfA v)) 8) (cnV (orV v (bfA v)) 13) (exQ (cnV (orV v (bfA v)) 14) (4 * m + x)) le) : leA v ≤ le := by
  obtain ⟨w1, -, -, -, -⟩ := bst_len hw h
  have x1' : x + 1 < orV v (bfA v) 13 m := by
    rw [cn13 m0 m1] at x1
    exact x1
  have ag := (cn_ag w1).ex w1.1 m0 m1 x0 x1'
  have q : lenQ (orV v (bfA v) 10) (orV v (bfA v) 11) (orV v (bfA v) 12) (orV v (bfA v) 8) (orV v (bfA v) 13) (exQ (orV v (bfA v) 14) (4 * m + x)) le := by
    rw [lenQ_R] at hl ⊢
    exact lenR_cg ag.sy (ag.wf (WF_ex w1.1 m0 m1 x0 x1')) (fun o q => (ag.2.2.1 o ((ag.V o).mp q)).2.2.symm) hl
  have w2 := WF_ex w1.1 m0 m1 x0 x1'
  rw [orV_14, orV_o v _ (t := 8) (by omega), orV_o v _ (t := 10) (by omega), orV_o v _ (t := 11) (by omega), orV_o v _ (t := 12) (by omega), orV_o v _ (t := 13) (by omega)] at q
  rw [orV_14, orV_o v _ (t := 5) (by omega), orV_o v _ (t := 10) (by omega), orV_o v _ (t := 11) (by omega), orV_o v _ (t := 12) (by omega), orV_o v _ (t := 13) (by omega)] at w2
  exact bst_min hw h w2 q
/-- the orders of the best plan -/
theorem bA_ord {v : Vw} (hw : wWF v) {m x : Int} (m0 : 0 ≤ m) (m1 : m ≤ 3) : ordA (cnV (orV v (bfA v))) m x = bA v m x := by
  have l4 := (ln_w hw m0 (show m < 4 by omega)).2
  have e : cnV (orV v (bfA v)) 13 m = v 13 m := by
    rw [cn13 m0 (by omega), orV_o v _ (by omega)]
  unfold bA
  rw [if_neg (fun z => z ⟨by omega, m1⟩), if_neg (show ¬ m < 0 by omega)]
  by_cases b : 0 ≤ x ∧ x < v 13 m
  · rw [if_neg (fun z => z b), ord_i m0 m1 b.1 (by rw [e]; exact b.2), cn14 (by omega) (by omega) (by rw [show (4 * m + x) % 4 = x by omega, show (4 * m + x) / 4 = m by omega, orV_o v _ (by omega)]; exact b.2), orV_14]
  · rw [if_pos b, ord_o m0 m1 (by rw [e]; exact b)]
