/-! what is asked, over a view -/
theorem ab_v {v : Vw} {o : Int} (h : vOp (v 10) o) (w : Int) : abA v o w = if ¬ (0 ≤ w ∧ w ≤ 7) then -2 else if w = 0 then v 11 o else if w = 1 then v 12 o else if w = 2 then plo (v 11) (v 13) (v 14) o else cif (¬ pos v) (-6) (if w = 3 then hV v o else if w = 4 then tV v o else if w = 5 then slkA v o else if w = 6 then (if slkA v o = 0 then 1 else 0) else popA v o) := cif_0 (fun q => q h)
theorem ab_n {v : Vw} {o : Int} (h : ¬ vOp (v 10) o) (w : Int) : abA v o w = -1 := cif_1 h
theorem ab_o {v : Vw} {o : Int} (h : vOp (v 10) o) {w : Int} (hw : ¬ (0 ≤ w ∧ w ≤ 7)) : abA v o w = -2 := by
  rw [ab_v h, if_pos hw]
theorem ab0 {v : Vw} {o : Int} (h : vOp (v 10) o) : abA v o 0 = v 11 o := by
  rw [ab_v h, if_neg (by omega), if_pos rfl]
theorem ab1 {v : Vw} {o : Int} (h : vOp (v 10) o) : abA v o 1 = v 12 o := by
  rw [ab_v h, if_neg (by omega), if_neg (by omega), if_pos rfl]
theorem ab2 {v : Vw} {o : Int} (h : vOp (v 10) o) : abA v o 2 = plo (v 11) (v 13) (v 14) o := by
  rw [ab_v h, if_neg (by omega), if_neg (by omega), if_neg (by omega), if_pos rfl]
theorem ab_np {v : Vw} {o : Int} (h : vOp (v 10) o) (hp : ¬ pos v) {w : Int} (a : 3 ≤ w) (b : w ≤ 7) : abA v o w = -6 := by
  rw [ab_v h, if_neg (by omega), if_neg (by omega), if_neg (by omega), if_neg (by omega), cif_1 hp]
theorem ab_p {v : Vw} {o : Int} (h : vOp (v 10) o) (hp : pos v) {w : Int} (a : 3 ≤ w) (b : w ≤ 7) : abA v o w = if w = 3 then hV v o else if w = 4 then tV v o else if w = 5 then slkA v o else if w = 6 then (if slkA v o = 0 then 1 else 0) else popA v o := by
  rw [ab_v h, if_neg (by omega), if_neg (by omega), if_neg (by omega), if_neg (by omega), cif_0 (fun q => q hp)]
theorem ab3 {v : Vw} {o : Int} (h : vOp (v 10) o) (hp : pos v) : abA v o 3 = hV v o := by
  rw [ab_p h hp (by omega) (by omega), if_pos rfl]
theorem ab4 {v : Vw} {o : Int} (h : vOp (v 10) o) (hp : pos v) : abA v o 4 = tV v o := by
  rw [ab_p h hp (by omega) (by omega), if_neg (by omega), if_pos rfl]
theorem ab5 {v : Vw} {o : Int} (h : vOp (v 10) o) (hp : pos v) : abA v o 5 = slkA v o := by
  rw [ab_p h hp (by omega) (by omega), if_neg (by omega), if_neg (by omega), if_pos rfl]
theorem ab6 {v : Vw} {o : Int} (h : vOp (v 10) o) (hp : pos v) : abA v o 6 = if slkA v o = 0 then 1 else 0 := by
  rw [ab_p h hp (by omega) (by omega), if_neg (by omega), if_neg (by omega), if_neg (by omega), if_pos rfl]
theorem ab7 {v : Vw} {o : Int} (h : vOp (v 10) o) (hp : pos v) : abA v o 7 = popA v o := by
  rw [ab_p h hp (by omega) (by omega), if_neg (by omega), if_neg (by omega), if_neg (by omega), if_neg (by omega)]
def T_X6_lengthG : Tr := fun a σ K => match a with
  | [.inr (.inl (6, 0))] => ∃ g, GS g σ ∧ ∀ σ', GS g σ' → K (some (lenA g.1)) σ'
  | _ => False
theorem m_X6_lengthG : ∀ a σ K, T_X6_lengthG a σ K → T_X6_length a σ K := by
  intro a σ K h
  unfold T_X6_lengthG at h
  split at h
  · obtain ⟨g, hg, hk⟩ := h
    unfold T_X6_length
    refine ⟨⟨hg.1.1, hg.2.2.2.2.1⟩, fun σ1 hF hK hn => ?_, fun σ1 hF hK hP => ?_⟩
    · have := hk σ1 (GS_kn hg hF hK)
      rw [show lenA g.1 = -6 from cif_0 (PK_np hg.1.1 hn hg.1.2)] at this
      exact this
    · have G := GS_kn hg hF hK
      have v := PK_v G.1.1 hP G.1.2
      have := hk σ1 G
      rw [show lenA g.1 = σ1 1 0 8 from (cif_1 v.1).trans v.2.2.1.symm] at this
      exact this
  · exact h.elim
theorem k_X6_lengthG (l : Launch) : Ct l yX6_length cX6_length 1 (some .int) 6 T_X6_lengthG := Ct_mono (k_X6_length l) m_X6_lengthG
def T_X6_aboutG : Tr := fun a σ K => match a with
  | [.inr (.inl (6, 0)), .inl o, .inl w] => ∃ g, GS g σ ∧ ∀ σ', GS g σ' → K (some (abA g.1 o w)) σ'
  | _ => False
theorem m_X6_aboutG : ∀ a σ K, T_X6_aboutG a σ K → T_X6_about a σ K := by
  intro a σ K h
  unfold T_X6_aboutG at h
  split at h
  · rename_i o w
    obtain ⟨g, hg, hk⟩ := h
    have hk' : ∀ r σ', GS g σ' → r = abA g.1 o w → K (some r) σ' := fun r σ' G e => by rw [e]; exact hk σ' G
    have ag := cv_ag hg.1.1
    rw [hg.1.2] at ag
    have V : vOp (σ 10 0) o ↔ vOp (g.1 10) o := (ag.V o).symm
    unfold T_X6_about
    refine ⟨⟨hg.1.1, hg.2.2.2.2.1⟩, fun a => ?_, fun a b => ?_, fun a b => ?_, fun a b => ?_, fun a b => ?_, fun a b c => ⟨fun σ1 hF hK hn => ?_, fun σ1 hF hK hP => ?_⟩⟩
    · exact hk' _ _ hg (ab_n (fun q => a (V.mpr q)) w).symm
    · exact hk' _ _ hg (ab_o (V.mp a) b).symm
    · subst b
      exact hk' _ _ hg ((ag.2.2.1 o a).1.trans (ab0 (V.mp a)).symm)
    · subst b
      exact hk' _ _ hg ((ag.2.2.1 o a).2.1.trans (ab1 (V.mp a)).symm)
    · subst b
      exact hk' _ _ hg ((ag.pl hg.1.1.1 a).trans (ab2 (V.mp a)).symm)
    · exact hk' _ _ (GS_kn hg hF hK) (ab_np (V.mp a) (PK_np hg.1.1 hn hg.1.2) b c).symm
    · have G := GS_kn hg hF hK
      have v := PK_v G.1.1 hP G.1.2
      have e := v.2.1 o (V.mp a)
      have es : σ1 1 0 8 - (σ1 21 0 o + σ1 12 0 o + σ1 22 0 o) = slkA g.1 o := by
        unfold slkA
        rw [e.1, e.2.1, e.2.2.1, v.2.2.1]
      refine ⟨fun q => ?_, fun q => ?_, fun q => ?_, fun q z => ?_, fun q z => ?_, fun q r hr => ?_⟩
      · subst q
        exact hk' _ _ G (e.1.trans (ab3 (V.mp a) v.1).symm)
      · subst q
        exact hk' _ _ G (e.2.1.trans (ab4 (V.mp a) v.1).symm)
      · subst q
        exact hk' _ _ G (es.trans (ab5 (V.mp a) v.1).symm)
      · subst q
        rw [es] at z
        exact hk' _ _ G ((ab6 (V.mp a) v.1).trans (if_pos z)).symm
      · subst q
        rw [es] at z
        exact hk' _ _ G ((ab6 (V.mp a) v.1).trans (if_neg z)).symm
      · subst q
        rw [v.2.2.2.1] at hr
        exact hk' _ _ G ((popA_is hr (fun k k0 k1 => (v.2.2.2.2.1 k k0 k1).1)).trans (ab7 (V.mp a) v.1).symm)
  · exact h.elim
theorem k_X6_aboutG (l : Launch) : Ct l yX6_about cX6_about 3 (some .int) 6 T_X6_aboutG := Ct_mono (k_X6_about l) m_X6_aboutG
def T_X6_pathG : Tr := fun a σ K => match a with
  | [.inr (.inl (6, 0)), .inl k] => ∃ g, GS g σ ∧ ∀ σ', GS g σ' → K (some (pathA g.1 k)) σ'
  | _ => False
theorem m_X6_pathG : ∀ a σ K, T_X6_pathG a σ K → T_X6_path a σ K := by
  intro a σ K h
  unfold T_X6_pathG at h
  split at h
  · rename_i k
    obtain ⟨g, hg, hk⟩ := h
    have hk' : ∀ r σ', GS g σ' → r = pathA g.1 k → K (some r) σ' := fun r σ' G e => by rw [e]; exact hk σ' G
    unfold T_X6_path
    refine ⟨⟨hg.1.1, hg.2.2.2.2.1⟩, fun σ1 hF hK hn => hk' _ _ (GS_kn hg hF hK) (cif_0 (fun q => PK_np hg.1.1 hn hg.1.2 q.1)).symm, fun σ1 hF hK hP => ?_⟩
    have G := GS_kn hg hF hK
    have v := PK_v G.1.1 hP G.1.2
    refine ⟨fun a b => ?_, fun a => ?_⟩
    · rw [v.2.2.2.1] at b
      exact hk' _ _ G ((v.2.2.2.2.1 k a b).1.trans (cif_1 ⟨v.1, a, b⟩).symm)
    · rw [v.2.2.2.1] at a
      exact hk' _ _ G (cif_0 (fun q => a q.2)).symm
  · exact h.elim
theorem k_X6_pathG (l : Launch) : Ct l yX6_path cX6_path 2 (some .int) 6 T_X6_pathG := Ct_mono (k_X6_path l) m_X6_pathG
def T_X6_orderG : Tr := fun a σ K => match a with
  | [.inr (.inl (6, 0)), .inl m, .inl x] => ∃ g, GS g σ ∧ ∀ σ', GS g σ' → K (some (ordA g.1 m x)) σ'
  | _ => False
theorem m_X6_orderG : ∀ a σ K, T_X6_orderG a σ K → T_X6_order a σ K := by
  intro a σ K h
  unfold T_X6_orderG at h
  split at h
  · rename_i m x
    obtain ⟨g, hg, hk⟩ := h
    have hk' : ∀ r, r = ordA g.1 m x → K (some r) σ := fun r e => by rw [e]; exact hk σ hg
    have ag := cv_ag hg.1.1
    rw [hg.1.2] at ag
    unfold T_X6_order
    refine ⟨hg.1.1, fun a => hk' _ (if_pos a).symm, fun a => ?_⟩
    have e := ag.2.2.2.1 m a.1 (by omega)
    have l4 := (hg.1.1.1.2.2.2.2.1 m a.1 (by omega)).2
    unfold ordA at hk'
    rw [if_neg (fun q => q a)] at hk'
    refine ⟨fun b => ?_, fun b => ?_⟩
    · rw [if_pos (by rw [← e]; exact b)] at hk'
      exact hk' _ (ag.2.2.2.2 m x a.1 (by omega) b.1 b.2)
    · rw [if_neg (by rw [← e]; exact b)] at hk'
      exact hk' _ rfl
  · exact h.elim
theorem k_X6_orderG (l : Launch) : Ct l yX6_order cX6_order 3 (some .int) 2 T_X6_orderG := Ct_mono (k_X6_order l) m_X6_orderG
theorem st_w {v : Vw} (hw : wWF v) {j : Int} (j0 : 0 ≤ j) (j1 : j < 4) : 0 ≤ v 10 j ∧ v 10 j ≤ 4 ∧ (v 5 0 ≤ j → v 10 j = 0) := hw.1.2.1 j j0 j1
theorem last_v {v : Vw} (hw : wWF v) {j : Int} (j0 : 0 ≤ j) (j1 : j < 4) (h : 0 < v 10 j) : vOp (v 10) (4 * j + v 10 j - 1) := by
  have := st_w hw j0 j1
  have q := vOp_i (st := v 10) (s := v 10 j - 1) j0 j1 (by omega) (by omega) this.2.1
  rw [show 4 * j + (v 10 j - 1) = 4 * j + v 10 j - 1 by omega] at q
  exact q
/-- ends and lateness, in the view's words -/
theorem PK_ev {σ : Mem} (hw : sWF σ 0) (hP : PK σ) {v : Vw} (hv : cv σ 0 = v) {j : Int} (j0 : 0 ≤ j) (j1 : j < v 5 0) : ejV σ j = ejA v j ∧ ltV σ j = ltA v j := by
  have p := PK_v hw hP hv
  subst hv
  have ag := cv_ag hw
  have ww := cv_wf hw
  have j4 := ww.1.1.2
  have e10 := ag.2.1 j j0 (by omega)
  have e8 : cv σ 0 8 j = σ 8 0 j := cn8 j0 (by rw [show vwS σ 0 5 0 = cv σ 0 5 0 from (cn5 _).symm]; exact j1)
  have e9 : cv σ 0 9 j = σ 9 0 j := cn9 j0 (by rw [show vwS σ 0 5 0 = cv σ 0 5 0 from (cn5 _).symm]; exact j1)
  have e : ejV σ j = ejA (cv σ 0) j := by
    unfold ejV ejA
    rw [e10, e8]
    by_cases c : 0 < cv σ 0 10 j
    · rw [if_pos c, if_pos c]
      have q := p.2.1 _ (last_v ww j0 (by omega) c)
      rw [q.1, q.2.2.2.1]
    · rw [if_neg c, if_neg c]
  refine ⟨e, ?_⟩
  unfold ltV ltA
  rw [e, e9]
def T_X6_ofJobG : Tr := fun a σ K => match a with
  | [.inr (.inl (6, 0)), .inl j, .inl w] => ∃ g, GS g σ ∧ ∀ σ', GS g σ' → K (some (ofjA g.1 j w)) σ'
  | _ => False
theorem of_w {v : Vw} {j : Int} (a : 0 ≤ j ∧ j < v 5 0) (w : Int) : ofjA v j w = if ¬ (0 ≤ w ∧ w ≤ 5) then -2 else if w = 0 then v 8 j else if w = 1 then v 9 j else if w = 2 then v 10 j else if w = 3 then wF (v 12) (4 * j) (v 10 j) else cif (¬ pos v) (-6) (if w = 4 then ejA v j else ltA v j) := if_neg (fun q => q a)
theorem of_n {v : Vw} {j : Int} (a : ¬ (0 ≤ j ∧ j < v 5 0)) (w : Int) : ofjA v j w = -1 := if_pos a
theorem of_o {v : Vw} {j w : Int} (a : 0 ≤ j ∧ j < v 5 0) (b : ¬ (0 ≤ w ∧ w ≤ 5)) : ofjA v j w = -2 := by
  rw [of_w a, if_pos b]
theorem of0 {v : Vw} {j : Int} (a : 0 ≤ j ∧ j < v 5 0) : ofjA v j 0 = v 8 j := by
  rw [of_w a, if_neg (by omega), if_pos rfl]
theorem of1 {v : Vw} {j : Int} (a : 0 ≤ j ∧ j < v 5 0) : ofjA v j 1 = v 9 j := by
  rw [of_w a, if_neg (by omega), if_neg (by omega), if_pos rfl]
theorem of2 {v : Vw} {j : Int} (a : 0 ≤ j ∧ j < v 5 0) : ofjA v j 2 = v 10 j := by
  rw [of_w a, if_neg (by omega), if_neg (by omega), if_neg (by omega), if_pos rfl]
theorem of3 {v : Vw} {j : Int} (a : 0 ≤ j ∧ j < v 5 0) : ofjA v j 3 = wF (v 12) (4 * j) (v 10 j) := by
  rw [of_w a, if_neg (by omega), if_neg (by omega), if_neg (by omega), if_neg (by omega), if_pos rfl]
theorem of4 {v : Vw} {j : Int} (a : 0 ≤ j ∧ j < v 5 0) (hp : pos v) : ofjA v j 4 = ejA v j := by
  rw [of_w a, if_neg (by omega), if_neg (by omega), if_neg (by omega), if_neg (by omega), if_neg (by omega), cif_0 (fun q => q hp), if_pos rfl]
theorem of5 {v : Vw} {j : Int} (a : 0 ≤ j ∧ j < v 5 0) (hp : pos v) : ofjA v j 5 = ltA v j := by
  rw [of_w a, if_neg (by omega), if_neg (by omega), if_neg (by omega), if_neg (by omega), if_neg (by omega), cif_0 (fun q => q hp), if_neg (by omega)]
theorem of_np {v : Vw} {j w : Int} (a : 0 ≤ j ∧ j < v 5 0) (hp : ¬ pos v) (b : 4 ≤ w) (c : w ≤ 5) : ofjA v j w = -6 := by
  rw [of_w a, if_neg (by omega), if_neg (by omega), if_neg (by omega), if_neg (by omega), if_neg (by omega), cif_1 hp]
theorem m_X6_ofJobG : ∀ a σ K, T_X6_ofJobG a σ K → T_X6_ofJob a σ K := by
  intro a σ K h
  unfold T_X6_ofJobG at h
  split at h
  · rename_i j w
    obtain ⟨g, hg, hk⟩ := h
    have hk' : ∀ r σ', GS g σ' → r = ofjA g.1 j w → K (some r) σ' := fun r σ' G e => by rw [e]; exact hk σ' G
    have ag := cv_ag hg.1.1
    have e8 : 0 ≤ j → j < g.1 5 0 → g.1 8 j = σ 8 0 j ∧ g.1 9 j = σ 9 0 j := by
      rw [← hg.1.2]
      exact fun a b => ⟨cn8 a (by rw [show vwS σ 0 5 0 = cv σ 0 5 0 from (cn5 _).symm]; exact b), cn9 a (by rw [show vwS σ 0 5 0 = cv σ 0 5 0 from (cn5 _).symm]; exact b)⟩
    rw [hg.1.2] at ag
    have J4 := hg.1.1.1.1.2
    have e5 : σ 5 0 0 = g.1 5 0 := ag.1
    unfold T_X6_ofJob
    rw [e5] at J4 ⊢
    refine ⟨⟨hg.1.1, hg.2.2.2.2.1⟩, fun a => hk' _ _ hg (of_n a w).symm, fun a b => hk' _ _ hg (of_o a b).symm, fun a b => ?_, fun a b => ?_, fun a b => ?_, fun a b => ?_, fun a b c => ⟨fun σ1 hF hK hn => hk' _ _ (GS_kn hg hF hK) (of_np a (PK_np hg.1.1 hn hg.1.2) b c).symm, fun σ1 hF hK hP => ?_⟩⟩
    · subst b
      exact hk' _ _ hg ((e8 a.1 a.2).1.symm.trans (of0 a).symm)
    · subst b
      exact hk' _ _ hg ((e8 a.1 a.2).2.symm.trans (of1 a).symm)
    · subst b
      exact hk' _ _ hg ((ag.2.1 j a.1 (by omega)).trans (of2 a).symm)
    · subst b
      refine hk' _ _ hg (Eq.trans ?_ (of3 a).symm)
      have e10 := ag.2.1 j a.1 (by omega)
      rw [e10]
      have q := ag.wk (j := j) (a := 0) (n := σ 10 0 j) hg.1.1.1 a.1 (by omega) (by omega) (by omega)
      rw [e10, Int.add_zero] at q
      exact q
    · have G := GS_kn hg hF hK
      have v := PK_v G.1.1 hP G.1.2
      have e := PK_ev G.1.1 hP G.1.2 a.1 a.2
      refine ⟨fun q => ?_, fun q => ?_⟩
      · subst q
        exact hk' _ _ G (e.1.trans (of4 a v.1).symm)
      · subst q
        exact hk' _ _ G (e.2.trans (of5 a v.1).symm)
  · exact h.elim
theorem k_X6_ofJobG (l : Launch) : Ct l yX6_ofJob cX6_ofJob 3 (some .int) 6 T_X6_ofJobG := Ct_mono (k_X6_ofJob l) m_X6_ofJobG
