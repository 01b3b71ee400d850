/-! what changes, over a view: 4 -/
theorem AG.ex {J J' : Int} {st st' mc mc' du du' re re' ln ln' q q' : Int → Int} (h : AG J J' st st' mc mc' du du' re re' ln ln' q q') (hW : WF J st mc du ln q) {m x : Int} (m0 : 0 ≤ m) (m1 : m < 4) (x0 : 0 ≤ x) (x1 : x + 1 < ln m) : AG J J' st st' mc mc' du du' re re' ln ln' (exQ q (4 * m + x)) (exQ q' (4 * m + x)) := by
  refine ⟨h.1, h.2.1, h.2.2.1, h.2.2.2.1, fun m' k a b c d => ?_⟩
  have l4 := (hW.2.2.2.2.1 m m0 m1).2
  have l4' := (hW.2.2.2.2.1 m' a b).2
  have q0 := h.2.2.2.2 m' k a b c d
  have q1 := h.2.2.2.2 m x m0 m1 x0 (by omega)
  have q2 := h.2.2.2.2 m (x + 1) m0 m1 (by omega) x1
  unfold exQ
  by_cases y1 : 4 * m' + k = 4 * m + x + 1
  · rw [if_pos y1, if_pos y1]
    exact q1
  · rw [if_neg y1, if_neg y1]
    by_cases y2 : 4 * m' + k = 4 * m + x
    · rw [if_pos y2, if_pos y2, show 4 * m + x + 1 = 4 * m + (x + 1) by omega]
      exact q2
    · rw [if_neg y2, if_neg y2]
      exact q0
theorem lenQ_R {st mc du re ln q : Int → Int} {L : Int} : lenQ st mc du re ln q L ↔ lenR st mc du (fun o => re (o / 4)) ln q L := Iff.rfl
/-- the length of a plan, and its last end -/
theorem lenQ_LV {v : Vw} (hw : wWF v) {L : Int} (h : lenQ (v 10) (v 11) (v 12) (v 8) (v 13) (v 14) L) : pos v ∧ LV v = L := by
  obtain ⟨g, H, a, b, c⟩ := h
  have hp : pos v := ⟨g, H⟩
  have f := pos_f hw hp
  have hd : ∀ o, vOp (v 10) o → 1 ≤ v 12 o := fun o q => (wWF_op hw q).2.2.1
  refine ⟨hp, max_unique f.2.2.1 ((end_max hd f.1 f.2.1).mpr ⟨a, fun o q => ?_, ?_⟩)⟩
  · rw [hV_un hw H q]
    exact b o q
  · rcases c with c | ⟨o, q, c⟩
    · exact Or.inl c
    · exact Or.inr ⟨o, q, by rw [hV_un hw H q]; exact c⟩
theorem LV_lenQ {v : Vw} (hw : wWF v) (hp : pos v) : lenQ (v 10) (v 11) (v 12) (v 8) (v 13) (v 14) (LV v) := by
  have f := pos_f hw hp
  have hd : ∀ o, vOp (v 10) o → 1 ≤ v 12 o := fun o q => (wWF_op hw q).2.2.1
  exact ⟨hV v, f.1, (end_max hd f.1 f.2.1).mp f.2.2.1⟩
/-- a view and the one that it is brought to -/
theorem lenQ_cn {w : Vw} (h : wWF w) {L : Int} : lenQ (w 10) (w 11) (w 12) (w 8) (w 13) (w 14) L ↔ lenQ (cnV w 10) (cnV w 11) (cnV w 12) (cnV w 8) (cnV w 13) (cnV w 14) L := by
  have ag := cn_ag h
  rw [lenQ_R, lenQ_R]
  exact ⟨lenR_cg ag h.1 (fun o v => (ag.2.2.1 o v).2.2), lenR_cg ag.sy (ag.wf h.1) (fun o v => (ag.2.2.1 o ((ag.V o).mp v)).2.2.symm)⟩
theorem GS_IC {g : Gh} {σ σ1 σ2 : Mem} {k le ch : Int} (h : GS g σ) (hF : FrG pKn σ σ1) (hP : KPc σ2) (hI : IC σ1 σ2 k le ch) : GS g σ2 := by
  have f := hI.1
  have E : ∀ t a x, ¬ pKn t a x → ¬ pNt 1 t a x → σ2 t a x = σ t a x := fun t a x q r => by rw [f t a x r, hF t a x q]
  refine GS_fr h (fun t a x q => E t a x (by unfold hrg at q; unfold pKn pPa; omega) (by unfold hrg at q; unfold pNt; omega)) ⟨hP, KSc_cg h.2.2.2.2.2.1 (fun t q => funext fun x => E t 0 x (by unfold pKn pPa; omega) (by unfold pNt; omega)) (fun x q => E 4 0 x (by unfold pKn pPa; omega) (by unfold pNt; omega)) (funext fun x => E 27 0 x (by unfold pKn pPa; omega) (by unfold pNt; omega)), KRc_cg h.2.2.2.2.2.2 (fun t q => funext fun x => E t 0 x (by unfold pKn pPa; omega) (by unfold pNt; omega)) (fun x q => E 4 1 x (by unfold pKn pPa; omega) (by unfold pNt; omega)) (fun x q => E 6 0 x (by unfold pKn pPa; omega) (by unfold pNt; omega)) (funext fun x => E 27 1 x (by unfold pKn pPa; omega) (by unfold pNt; omega))⟩
def T_X6_improveG : Tr := fun a σ K => match a with
  | [.inr (.inl (6, 0))] => ∃ g, GS g σ ∧ (∀ σ', GS g σ' → K (some (-5)) σ') ∧ (pos g.1 → ∀ m x le σ', 0 ≤ m → m < 4 → 0 ≤ x → x + 1 < g.1 13 m → lenQ (g.1 10) (g.1 11) (g.1 12) (g.1 8) (g.1 13) (exQ (g.1 14) (4 * m + x)) le → le < LV g.1 → GS (bumpG g (cnV (swV g.1 m x))) σ' → K (some le) σ')
  | _ => False
theorem m_X6_improveG : ∀ a σ K, T_X6_improveG a σ K → T_X6_improve a σ K := by
  intro a σ K h
  unfold T_X6_improveG at h
  split at h
  · obtain ⟨g, hg, k1, k2⟩ := h
    unfold T_X6_improve
    refine ⟨⟨hg.1.1, hg.2.2.2.2.1, hg.2.1.1⟩, fun σ1 hF hK hn => k1 σ1 (GS_kn hg hF hK), fun σ1 σ2 k le ch hF hPK hP hI hk => ⟨fun _ => k1 σ2 (GS_IC hg hF hP hI), fun hch σ3 σ4 hR h4 => ?_⟩⟩
    have G2 := GS_IC hg hF hP hI
    have f := hI.1
    have e1 : ∀ t, t = 5 ∨ (8 ≤ t ∧ t ≤ 14) → σ1 t 0 = σ t 0 := fun t q => pKn_f hF t 0 (by omega)
    have e2 : ∀ t, t = 5 ∨ (8 ≤ t ∧ t ≤ 14) → σ2 t 0 = σ1 t 0 := fun t q => funext fun x => f t 0 x (by unfold pNt; omega)
    have w1 := hI.2.1
    have c1 : cv σ1 0 = g.1 := by
      rw [← hg.1.2]
      exact cv_of (w := vwS σ 0) (fun t x q => by rw [e1 t q]; rfl)
    have p := PK_v w1 hPK c1
    have ag := cv_ag w1
    rw [c1] at ag
    have vch : vOp (σ1 10 0) ch := hI.2.2.2.2.2.2.1.resolve_left hch
    have hl := hI.2.2.2.2.2.2.2.1 hch
    have wo := sWF_op w1 vch
    have p0 := (plo_of w1.1 vch).1
    have I := hI.2.2.2.2.2.1
    unfold impC impI at I
    obtain ⟨k', a0, a1, a2, a3, a4, a5, -⟩ := I.2.resolve_left (fun q => hch q.1)
    rw [← a3] at a4
    unfold sEx exL at a4
    rw [lenQ_R] at a4
    have l1 := lenR_cg (ag.ex w1.1 wo.1 wo.2.1 p0 hl) (WF_ex w1.1 wo.1 wo.2.1 p0 hl) (fun o v => (ag.2.2.1 o v).2.2) a4
    rw [p.2.2.1] at a5
    have e13 := ag.2.2.2.1 (σ1 11 0 ch) wo.1 wo.2.1
    have xx : ∀ t k y, ¬ (t = 14 ∧ k = 0) → σ4 t k y = σ3 t k y := fun t k y q => by rw [h4, up_ap, if_neg (by omega), up_ap, if_neg (by omega)]
    have h14 : ∀ y, σ4 14 0 y = exQ (σ2 14 0) (4 * σ1 11 0 ch + plo (σ1 11 0) (σ1 13 0) (σ1 14 0) ch) y := fun y => by
      rw [h4, up_ap, up_ap, Rec_x hR 14 y (by omega), Rec_x hR 14 (4 * σ1 11 0 ch + plo (σ1 11 0) (σ1 13 0) (σ1 14 0) ch) (by omega), Rec_x hR 14 (4 * σ1 11 0 ch + plo (σ1 11 0) (σ1 13 0) (σ1 14 0) ch + 1) (by omega)]
      unfold exQ
      simp only [true_and]
    have Q := q_vw G2
    have r0 := Rec_0 hR
    have hl2 : plo (σ1 11 0) (σ1 13 0) (σ1 14 0) ch + 1 < σ2 13 0 (σ1 11 0 ch) := by rw [e2 13 (by omega)]; exact hl
    have G := GS_or G2 hR (f := exQ (σ2 14 0) (4 * σ1 11 0 ch + plo (σ1 11 0) (σ1 13 0) (σ1 14 0) ch)) (f' := exQ (g.1 14) (4 * σ1 11 0 ch + plo (σ1 11 0) (σ1 13 0) (σ1 14 0) ch)) (tx := g.2.2.2) (WF_ex G2.1.1.1 wo.1 wo.2.1 p0 hl2) h14 (fun t k y _ q _ => xx t k y q) (exQ_cg Q.2.2 Q.1 wo.1 wo.2.1 p0 hl2) (RCb_0 (by rw [xx 6 0 8 (by omega)]; exact r0.1) (by rw [xx 4 0 1 (by omega)]; exact r0.2.1) (by rw [xx 4 1 1 (by omega)]; exact r0.2.2)) (GSp_e G2.2.2.2.1 (fun t y q => by rw [xx t 0 y (by omega), Rec_x hR t y (by omega)]))
    exact k2 p.1 _ _ _ _ wo.1 wo.2.1 p0 (by rw [← e13]; exact hl) l1 a5 G
  · exact h.elim
theorem k_X6_improveG (l : Launch) : Ct l yX6_improve cX6_improve 6 (some .int) 6 T_X6_improveG := Ct_mono (k_X6_improve l) m_X6_improveG
def T_X6_undoG : Tr := fun a σ K => match a with
  | [.inr (.inl (6, 0))] => ∃ g, GS g σ ∧ (g.2.1 = [] → ∀ σ', GS g σ' → K (some (-5)) σ') ∧ (∀ w hs, g.2.1 = w :: hs → ∀ σ', GS (w, hs, g.2.2.1, g.2.2.2) σ' → K (some hs.length) σ')
  | _ => False
theorem m_X6_undoG : ∀ a σ K, T_X6_undoG a σ K → T_X6_undo a σ K := by
  intro a σ K h
  unfold T_X6_undoG at h
  split at h
  · obtain ⟨g, hg, k1, k2⟩ := h
    obtain ⟨n0, n1, m0, m1⟩ := hg.2.1.1
    have hn := hg.2.1.2.1
    unfold T_X6_undo
    refine ⟨hg.2.1.1, fun a => ?_, fun a σ1 σ2 hT h2 => ?_⟩
    · refine k1 ?_ σ hg
      cases hs : g.2.1 with
      | nil => rfl
      | cons w r =>
        rw [hs, List.length_cons] at hn
        omega
    · cases hs : g.2.1 with
      | nil =>
        rw [hs, List.length_nil] at hn
        omega
      | cons w r =>
        rw [hs, List.length_cons] at hn
        have k := k2 w r hs σ2
        have c : ∀ t k j, ¬ ((t = 6 ∧ k = 0 ∧ j = 8) ∨ (t = 4 ∧ (k = 0 ∨ k = 1) ∧ j = 1)) → σ2 t k j = σ1 t k j := fun t k j q => by
          rw [h2, up_ap, if_neg (by omega), up_ap, if_neg (by omega), up_ap, if_neg (by omega)]
        have z : σ2 6 0 8 = 0 ∧ σ2 4 0 1 = 0 ∧ σ2 4 1 1 = 0 := by
          refine ⟨?_, ?_, ?_⟩
          · rw [h2, up_ap, if_neg (by omega), up_ap, if_neg (by omega), up_ap, if_pos ⟨rfl, rfl, rfl⟩]
          · rw [h2, up_ap, if_neg (by omega), up_ap, if_pos ⟨rfl, rfl, rfl⟩]
          · rw [h2, up_ap, if_pos ⟨rfl, rfl, rfl⟩]
        have o : ∀ t k y, t ≠ 0 → t ≠ 4 → t ≠ 6 → ¬ (k = 0 ∧ (t = 5 ∨ (8 ≤ t ∧ t ≤ 14))) → σ2 t k y = σ t k y := fun t k y q r u v => by
          rw [c t k y (by omega), hT t k y, if_neg (by omega), if_neg (by omega), if_neg (by omega)]
        have e02 : σ2 0 0 2 = (σ 0 0 2 + 6 - 1) % 6 := by rw [c 0 0 2 (by omega), hT 0 0 2, if_pos ⟨rfl, rfl, rfl⟩]
        have e01 : σ2 0 0 1 = σ 0 0 1 - 1 := by rw [c 0 0 1 (by omega), hT 0 0 1, if_neg (by omega), if_pos ⟨rfl, rfl, rfl⟩]
        have H := hg.2.1.2.2
        have s0 : slt σ ((0 : Nat) : Int) = 2 + (σ 0 0 2).toNat := by unfold slt; omega
        have h0 := H 0 w (by rw [hs]; rfl)
        rw [s0] at h0
        have q0 := cv_m (σ' := σ2) (i' := 0) h0.1 (fun t j q => by
          rw [c t 0 j (by omega), hT t 0 j, if_neg (by omega), if_neg (by omega), if_pos ⟨rfl, q⟩])
        have er : (r.length : Int) = σ 0 0 1 - 1 := by omega
        rw [er] at k
        refine k ⟨⟨q0.1, q0.2.trans h0.2⟩, ⟨⟨?_, ?_, ?_, ?_⟩, ?_, fun d w' q => ?_⟩, fun w' q => ?_, GSp_e hg.2.2.2.1 (fun t y q => o t 0 y (by omega) (by omega) (by omega) (by omega)), RCb_0 z.1 z.2.1 z.2.2⟩
        · rw [e02]
          omega
        · rw [e02]
          omega
        · rw [e01]
          omega
        · rw [e01]
          omega
        · rw [e01]
          dsimp only
          omega
        · dsimp only at q
          have hd : d < r.length := (List.getElem?_eq_some_iff.mp q).1
          have qq := H (d + 1) w' (by rw [hs]; exact q)
          have ix : slt σ2 (d : Int) = slt σ ((d + 1 : Nat) : Int) := by
            unfold slt
            rw [e02]
            omega
          have n2 : 2 ≤ slt σ ((d + 1 : Nat) : Int) := by unfold slt; omega
          rw [ix, ← qq.2]
          exact cv_m qq.1 (fun t j q => o t _ j (by omega) (by omega) (by omega) (by omega))
        · obtain ⟨a, b, c'⟩ := hg.2.2.1 w' q
          have q8 := cv_m (σ' := σ2) (i' := 8) b (fun t j q => o t _ j (by omega) (by omega) (by omega) (by omega))
          exact ⟨by rw [o 35 0 0 (by omega) (by omega) (by omega) (by omega)]; exact a, q8.1, q8.2.trans c'⟩
  · exact h.elim
theorem k_X6_undoG (l : Launch) : Ct l yX6_undo cX6_undo 1 (some .int) 3 T_X6_undoG := Ct_mono (k_X6_undo l) m_X6_undoG
def T_X6_saveG : Tr := fun a σ K => match a with
  | [.inr (.inl (6, 0)), .inl s] => ∃ g, GS g σ ∧ (¬ (0 ≤ s ∧ s ≤ 1) → ∀ σ', GS g σ' → K (some (-2)) σ') ∧ ((0 ≤ s ∧ s ≤ 1) → s = 0 ∧ ∀ σ', GS (g.1, g.2.1, some g.1, g.2.2.2) σ' → K (some (g.1 5 0)) σ')
  | _ => False
theorem m_X6_saveG : ∀ a σ K, T_X6_saveG a σ K → T_X6_save a σ K := by
  intro a σ K h
  unfold T_X6_saveG at h
  split at h
  · rename_i s
    obtain ⟨g, hg, k1, k2⟩ := h
    unfold T_X6_save
    refine ⟨fun a => k1 a σ hg, fun a σ1 hB => ?_⟩
    obtain ⟨rfl, k⟩ := k2 a
    have e5 : σ 5 0 0 = g.1 5 0 := by rw [← hg.1.2]; exact (cn5 (vwS σ 0)).symm
    rw [e5]
    have x : ∀ t k y, ¬ (k = 8 ∧ (t = 5 ∨ (8 ≤ t ∧ t ≤ 14))) → t ≠ 35 → up σ1 35 0 0 1 t k y = σ t k y := fun t k y q r => by
      rw [up_ap, if_neg (by omega), hB t k y, if_neg (by omega)]
    refine k _ ⟨?_, ⟨?_, ?_, fun d w q => ?_⟩, fun w q => ?_, GSp_e hg.2.2.2.1 (fun t y q => x t 0 y (by omega) (by omega)), RCb_e hg.2.2.2.2 (fun t a y q => x t a y (by omega) (by omega))⟩
    · have q0 := cv_m (σ' := up σ1 35 0 0 1) (i' := 0) hg.1.1 (fun t j q => x t 0 j (by omega) (by omega))
      exact ⟨q0.1, q0.2.trans hg.1.2⟩
    · unfold hsB
      rw [x 0 0 2 (by omega) (by omega), x 0 0 1 (by omega) (by omega)]
      exact hg.2.1.1
    · rw [x 0 0 1 (by omega) (by omega)]
      exact hg.2.1.2.1
    · obtain ⟨a, b⟩ := hg.2.1.2.2 d w q
      have hn := hg.2.1.1
      unfold hsB at hn
      have es : slt (up σ1 35 0 0 1) d = slt σ d := by unfold slt; rw [x 0 0 2 (by omega) (by omega)]
      have n2 : slt σ d ≠ 8 := by unfold slt; omega
      rw [es, ← b]
      exact cv_m a (fun t j q => x t _ j (by omega) (by omega))
    · dsimp only at q
      obtain rfl := Option.some.inj q
      have q0 := cv_m (σ' := up σ1 35 0 0 1) (i' := 8) hg.1.1 (fun t j q => by
        rw [up_ap, if_neg (by omega), hB t 8 j, if_pos ⟨rfl, q⟩])
      exact ⟨by rw [up_ap, if_pos ⟨rfl, rfl, rfl⟩]; omega, q0.1, q0.2.trans hg.1.2⟩
  · exact h.elim
theorem k_X6_saveG (l : Launch) : Ct l yX6_save cX6_save 2 (some .int) 2 T_X6_saveG := Ct_mono (k_X6_save l) m_X6_saveG
def T_X6_restoreG : Tr := fun a σ K => match a with
  | [.inr (.inl (6, 0)), .inl s] => ∃ g, GS g σ ∧ (¬ (0 ≤ s ∧ s ≤ 1) → ∀ σ', GS g σ' → K (some (-2)) σ') ∧ ((0 ≤ s ∧ s ≤ 1) → s = 0 ∧ ∃ w, g.2.2.1 = some w ∧ ∀ σ', GS (bumpG g w) σ' → K (some (w 5 0)) σ')
  | _ => False
theorem m_X6_restoreG : ∀ a σ K, T_X6_restoreG a σ K → T_X6_restore a σ K := by
  intro a σ K h
  unfold T_X6_restoreG at h
  split at h
  · rename_i s
    obtain ⟨g, hg, k1, k2⟩ := h
    unfold T_X6_restore
    refine ⟨hg.2.1.1, fun a => k1 a σ hg, fun a b => ?_, fun a b σ1 σ2 hR hB => ?_⟩
    · obtain ⟨rfl, w, hw, k⟩ := k2 a
      exact absurd b (hg.2.2.1 w hw).1
    · obtain ⟨rfl, w, hw, k⟩ := k2 a
      obtain ⟨a1, b1, c1⟩ := hg.2.2.1 w hw
      have r0 := Rec_0 hR
      have x : ∀ t k y, ¬ (k = 0 ∧ (t = 5 ∨ (8 ≤ t ∧ t ≤ 14))) → σ2 t k y = σ1 t k y := fun t k y q => by
        rw [hB t k y, if_neg (by omega)]
      have q0 := cv_m (σ' := σ2) (i' := 0) b1 (fun t j q => by
        rw [hB t 0 j, if_pos ⟨rfl, q⟩, show 8 + (0 : Int).toNat = 8 from rfl, hR t 8 j, if_neg (by omega), if_neg (by omega), if_neg (by omega), if_neg (by omega)])
      have e : cv σ2 0 = w := q0.2.trans c1
      have e5 : σ2 5 0 0 = w 5 0 := by rw [← e]; exact (cn5 (vwS σ2 0)).symm
      rw [e5]
      exact k σ2 (GS_ch hg hR (fun t k j _ q _ => x t k j q) q0.1 e (RCb_0 (by rw [x 6 0 8 (by omega)]; exact r0.1) (by rw [x 4 0 1 (by omega)]; exact r0.2.1) (by rw [x 4 1 1 (by omega)]; exact r0.2.2)) (GSp_e hg.2.2.2.1 (fun t y q => by rw [x t 0 y (by omega), Rec_x hR t y (by omega)])))
  · exact h.elim
theorem k_X6_restoreG (l : Launch) : Ct l yX6_restore cX6_restore 2 (some .int) 4 T_X6_restoreG := Ct_mono (k_X6_restore l) m_X6_restoreG
