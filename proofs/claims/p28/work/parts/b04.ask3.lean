/-! what is asked, over a view: 3 -/
noncomputable def leA (v : Vw) : Int := the (fun le => le ≠ 1000000 ∧ ∃ f, bstS (v 10) (v 11) (v 12) (v 8) (v 13) (v 14) le f)
noncomputable def bfA (v : Vw) : Int → Int := theF (fun f => bstS (v 10) (v 11) (v 12) (v 8) (v 13) (v 14) (leA v) f)
def BstF (v : Vw) : Prop := bstS (v 10) (v 11) (v 12) (v 8) (v 13) (v 14) (leA v) (bfA v) ∧ leA v ≠ 1000000
theorem ln_w {v : Vw} (hw : wWF v) {m : Int} (m0 : 0 ≤ m) (m1 : m < 4) : 0 ≤ v 13 m ∧ v 13 m ≤ 4 := hw.1.2.2.2.2.1 m m0 m1
theorem bst_v {v : Vw} (hw : wWF v) {le : Int} {f : Int → Int} (h : bstS (v 10) (v 11) (v 12) (v 8) (v 13) (v 14) le f) (hn : le ≠ 1000000) : BstF v ∧ leA v = le ∧ ∀ m k, 0 ≤ m → m < 4 → 0 ≤ k → k < v 13 m → bfA v (4 * m + k) = f (4 * m + k) := by
  have un : ∀ {le' : Int} {f' : Int → Int}, bstS (v 10) (v 11) (v 12) (v 8) (v 13) (v 14) le' f' → le' ≠ 1000000 → le' = le ∧ ∀ m k, 0 ≤ m → m < 4 → 0 ≤ k → k < v 13 m → f' (4 * m + k) = f (4 * m + k) := fun h' hn' => by
    rw [bstS_G] at h h'
    exact bstG_un (fun m a b => (ln_w hw a b).2) h' h hn'
  have e : leA v = le := the_is (P := fun le => le ≠ 1000000 ∧ ∃ f, bstS (v 10) (v 11) (v 12) (v 8) (v 13) (v 14) le f) ⟨hn, f, h⟩ (fun r ⟨a, g, b⟩ => (un b a).1)
  have hb : bstS (v 10) (v 11) (v 12) (v 8) (v 13) (v 14) (leA v) (bfA v) := theF_sp ⟨f, by rw [e]; exact h⟩
  exact ⟨⟨hb, by rw [e]; exact hn⟩, e, (un hb (by rw [e]; exact hn)).2⟩
theorem bst_s {σ : Mem} (hw : sWF σ 0) {le : Int} {f : Int → Int} (hB : sBst σ le f) (hn : le ≠ 1000000) {v : Vw} (hv : cv σ 0 = v) : BstF v ∧ leA v = le ∧ ∀ m k, 0 ≤ m → m < 4 → 0 ≤ k → k < v 13 m → bfA v (4 * m + k) = f (4 * m + k) := by
  subst hv
  refine bst_v (cv_wf hw) ?_ hn
  unfold sBst at hB
  rw [bstS_G] at hB ⊢
  have ag := cv_ag hw
  exact bstG_cg ag hw.1 (fun o v => (ag.2.2.1 o v).2.2) (fun m a b => (hw.1.2.2.2.2.1 m a b).1) hB
noncomputable def bA (v : Vw) (m x : Int) : Int := if ¬ (-1 ≤ m ∧ m ≤ 3) then -2 else if m < 0 then leA v else if ¬ (0 ≤ x ∧ x < v 13 m) then -6 else bfA v (4 * m + x)
def T_X6_bestG : Tr := fun a σ K => match a with
  | [.inr (.inl (6, 0)), .inl m, .inl x] => ∃ g, GS g σ ∧ ∀ σ', GS g σ' → (m = -1 → BstF g.1) → K (some (bA g.1 m x)) σ'
  | _ => False
theorem m_X6_bestG : ∀ a σ K, T_X6_bestG a σ K → T_X6_best a σ K := by
  intro a σ K h
  unfold T_X6_bestG at h
  split at h
  · rename_i m x
    obtain ⟨g, hg, hk⟩ := h
    have ag := cv_ag hg.1.1
    rw [hg.1.2] at ag
    unfold T_X6_best
    refine ⟨⟨hg.1.1, hg.2.2.2.2.2.1⟩, fun a => ?_, fun a b c => ?_, fun a b c σ1 le f hF hS hB hn => ?_⟩
    · have := hk _ hg (fun q => by omega)
      rw [show bA g.1 m x = -2 from if_pos a] at this
      exact this
    · have e := ag.2.2.2.1 m a (by omega)
      rw [e] at c
      have := hk _ hg (fun q => by omega)
      unfold bA at this
      rw [if_neg (by omega), if_neg (by omega), if_pos c] at this
      exact this
    · have q := bst_s hg.1.1 hB hn hg.1.2
      have k1 := hk _ (GS_Be hg hF hS) (fun _ => q.1)
      unfold bA at k1
      rw [if_neg (by omega)] at k1
      refine ⟨fun d => ?_, fun d => ?_⟩
      · rw [if_pos d, q.2.1] at k1
        exact k1
      · have c2 := c d
        have e := ag.2.2.2.1 m d (by omega)
        rw [e] at c2
        rw [if_neg (by omega), if_neg (fun z => z c2), q.2.2 m x d (by omega) c2.1 c2.2] at k1
        exact k1
  · exact h.elim
theorem k_X6_bestG (l : Launch) : Ct l yX6_best cX6_best 3 (some .int) 37 T_X6_bestG := Ct_mono (k_X6_best l) m_X6_bestG
noncomputable def klA (v : Vw) (b t u : Int) : Int := the (fun le => le ≠ 1000000 ∧ ∃ f, brkS (v 10) (v 11) (v 12) (v 8) (v 13) (v 14) b t u le f)
noncomputable def kfA (v : Vw) (b t u : Int) : Int → Int := theF (fun f => brkS (v 10) (v 11) (v 12) (v 8) (v 13) (v 14) b t u (klA v b t u) f)
def BrkF (v : Vw) (b t u : Int) : Prop := brkS (v 10) (v 11) (v 12) (v 8) (v 13) (v 14) b t u (klA v b t u) (kfA v b t u) ∧ klA v b t u ≠ 1000000
theorem re_w {v : Vw} (hw : wWF v) : ∀ o, vOp (v 10) o → 0 ≤ v 8 (o / 4) := fun _ q => (wWF_op hw q).2.2.2.2.2.2.1
theorem brk_v {v : Vw} (hw : wWF v) {b t u le : Int} {f : Int → Int} (h : brkS (v 10) (v 11) (v 12) (v 8) (v 13) (v 14) b t u le f) (hn : le ≠ 1000000) : BrkF v b t u ∧ klA v b t u = le ∧ ∀ m k, 0 ≤ m → m < 4 → 0 ≤ k → k < v 13 m → kfA v b t u (4 * m + k) = f (4 * m + k) := by
  have un : ∀ {le' : Int} {f' : Int → Int}, brkS (v 10) (v 11) (v 12) (v 8) (v 13) (v 14) b t u le' f' → le' ≠ 1000000 → le' = le ∧ ∀ m k, 0 ≤ m → m < 4 → 0 ≤ k → k < v 13 m → f' (4 * m + k) = f (4 * m + k) := fun h' hn' => brkS_un hw.1 (re_w hw) h' h hn'
  have e : klA v b t u = le := the_is (P := fun le => le ≠ 1000000 ∧ ∃ f, brkS (v 10) (v 11) (v 12) (v 8) (v 13) (v 14) b t u le f) ⟨hn, f, h⟩ (fun r ⟨a, g, b⟩ => (un b a).1)
  have hb : brkS (v 10) (v 11) (v 12) (v 8) (v 13) (v 14) b t u (klA v b t u) (kfA v b t u) := theF_sp ⟨f, by rw [e]; exact h⟩
  exact ⟨⟨hb, by rw [e]; exact hn⟩, e, (un hb (by rw [e]; exact hn)).2⟩
def okB (b t u w : Int) : Prop := (0 ≤ b ∧ b ≤ 3) ∧ (0 ≤ t ∧ t ≤ 200) ∧ (t ≤ u ∧ u ≤ 400) ∧ (-1 ≤ w ∧ w ≤ 15)
noncomputable def kA (v : Vw) (b t u w : Int) : Int := cif (¬ okB b t u w) (-2) (cif (¬ pos v) (-5) (if 0 ≤ w ∧ ¬ (w % 4 < v 13 (w / 4)) then -6 else if w < 0 then klA v b t u else kfA v b t u w))
def T_X6_breakdownG : Tr := fun a σ K => match a with
  | [.inr (.inl (6, 0)), .inl b, .inl t, .inl u, .inl w] => ∃ g, GS g σ ∧ ∀ σ', GS g σ' → (okB b t u w → pos g.1 → w = -1 → BrkF g.1 b t u) → K (some (kA g.1 b t u w)) σ'
  | _ => False
theorem m_X6_breakdownG : ∀ a σ K, T_X6_breakdownG a σ K → T_X6_breakdown a σ K := by
  intro a σ K h
  unfold T_X6_breakdownG at h
  split at h
  · rename_i b t u w
    obtain ⟨g, hg, hk⟩ := h
    have ag := cv_ag hg.1.1
    rw [hg.1.2] at ag
    have wg : wWF g.1 := by rw [← hg.1.2]; exact cv_wf hg.1.1
    have P : (∃ h, sH σ 0 h) ↔ pos g.1 := ⟨fun ⟨h, H⟩ => ⟨h, (ag.H hg.1.1.1).mp H⟩, fun ⟨h, H⟩ => ⟨h, (ag.H hg.1.1.1).mpr H⟩⟩
    unfold T_X6_breakdown
    refine ⟨⟨hg.1.1, hg.2.2.2.2.1, hg.2.2.2.2.2.2⟩, fun a => ?_, fun a => ?_⟩
    · have := hk _ hg (fun q => absurd q a)
      rw [show kA g.1 b t u w = -2 from cif_1 a] at this
      exact this
    · have a' : okB b t u w := a
      unfold kA at hk
      rw [cif_0 (fun q => q a')] at hk
      refine ⟨fun σ1 hF k1 k2 hn => ?_, fun σ1 hF k1 k2 hp c d => ?_, fun σ1 le f hF k1 k2 hB hn c => ?_⟩
      · have np : ¬ pos g.1 := fun q => by
          obtain ⟨h, H⟩ := P.mpr q
          exact hn h H
        have := hk _ (GS_KB hg hF k1 k2) (fun _ q => absurd q np)
        rw [cif_1 np] at this
        exact this
      · have e := ag.2.2.2.1 (w / 4) (by omega) (by omega)
        rw [e] at d
        have := hk _ (GS_KB hg hF k1 k2) (fun _ _ q => by omega)
        rw [cif_0 (fun q => q (P.mp hp)), if_pos ⟨c, d⟩] at this
        exact this
      · have hB' : brkS (g.1 10) (g.1 11) (g.1 12) (g.1 8) (g.1 13) (g.1 14) b t u le f := ag.brkS hg.1.1.1 hB
        have q := brk_v wg hB' hn
        have hp : pos g.1 := by
          obtain ⟨h0, H, -⟩ := hB'
          exact ⟨h0, H⟩
        have := hk _ (GS_KB hg hF k1 k2) (fun _ _ _ => q.1)
        rw [cif_0 (fun q => q hp)] at this
        refine ⟨fun d => ?_, fun d => ?_⟩
        · rw [if_neg (by omega), if_pos d, q.2.1] at this
          exact this
        · have c' := c.resolve_left (by omega)
          have e := ag.2.2.2.1 (w / 4) (by omega) (by omega)
          rw [e] at c'
          have ek := q.2.2 (w / 4) (w % 4) (by omega) (by omega) (by omega) c'
          rw [show 4 * (w / 4) + w % 4 = w by omega] at ek
          rw [if_neg (by omega), if_neg (by omega), ek] at this
          exact this
  · exact h.elim
theorem k_X6_breakdownG (l : Launch) : Ct l yX6_breakdown cX6_breakdown 5 (some .int) 37 T_X6_breakdownG := Ct_mono (k_X6_breakdown l) m_X6_breakdownG
theorem GS_tx {g : Gh} {σ : Mem} (h : GS g σ) : cL σ = g.2.2.2.2 ∧ nx (cT σ) (cL σ) = nx g.2.2.2.1 g.2.2.2.2 ∧ plnF (cT σ) (cL σ) = plnF g.2.2.2.1 g.2.2.2.2 ∧ pln0 (cT σ) (cL σ) = pln0 g.2.2.2.1 g.2.2.2.2 ∧ rtsF (cT σ) (cL σ) = rtsF g.2.2.2.1 g.2.2.2.2 ∧ 0 ≤ cL σ ∧ cL σ ≤ 80 := by
  obtain ⟨a, b, c⟩ := h.2.2.2.1
  have e : cL σ = g.2.2.2.2 := a
  rw [e]
  have q : nx (cT σ) g.2.2.2.2 = nx g.2.2.2.1 g.2.2.2.2 := nx_cg c
  exact ⟨rfl, q, (pln_cg q).2, (pln_cg q).1, (rts_cg q).2, b.1, b.2⟩
theorem GS_pl {g : Gh} {σ σ1 : Mem} (h : GS g σ) (hF : FrG (pPl 1) σ σ1) : GS g σ1 := GS_fr h (fun t a x q => hF t a x (by unfold hrg at q; unfold pPl; omega)) (RCb_e h.2.2.2.2 (fun t a x q => hF t a x (by unfold pPl; omega)))
theorem GS_rt {g : Gh} {σ σ1 : Mem} (h : GS g σ) (hF : FrG (pRd 1) σ σ1) : GS g σ1 := GS_fr h (fun t a x q => hF t a x (by unfold hrg at q; unfold pRd pPd; omega)) (RCb_e h.2.2.2.2 (fun t a x q => hF t a x (by unfold pRd pPd; omega)))
/-- the text of a plan, or no kind of text -/
def T_X6_faultG : Tr := fun a σ K => match a with
  | [.inr (.inl (6, 0)), .inl w] => w ≠ 0 ∧ ∃ g, GS g σ ∧ ∀ σ', GS g σ' → K (some (if w = 1 then plnF g.2.2.2.1 g.2.2.2.2 else -2)) σ'
  | _ => False
theorem m_X6_faultG : ∀ a σ K, T_X6_faultG a σ K → T_X6_fault a σ K := by
  intro a σ K h
  unfold T_X6_faultG at h
  split at h
  · rename_i w
    obtain ⟨w0, g, hg, hk⟩ := h
    have tx := GS_tx hg
    unfold T_X6_fault
    refine ⟨⟨tx.2.2.2.2.2.1, tx.2.2.2.2.2.2⟩, fun a => absurd a w0, fun a σ1 hF => ?_, fun a b => ?_⟩
    · have := hk _ (GS_pl hg hF.1)
      rw [if_pos a, ← tx.2.2.1] at this
      exact this
    · have := hk _ hg
      rw [if_neg b] at this
      exact this
  · exact h.elim
theorem k_X6_faultG (l : Launch) : Ct l yX6_fault cX6_fault 2 (some .int) 5 T_X6_faultG := Ct_mono (k_X6_fault l) m_X6_faultG
