/-! calls in the presence of the law's own row -/
def GX (g : Gh) (f : Int → Int) (σ : Mem) : Prop := GS g σ ∧ ∀ j, σ 57 0 j = f j
theorem GS_57 {g : Gh} {σ1 σ2 : Mem} (h : GS g σ1) (e : ∀ t a x, t ≠ 57 → σ2 t a x = σ1 t a x) : GS g σ2 := GS_fr h (fun t a x q => e t a x (by unfold hrg at q; omega)) (RCb_e h.2.2.2.2 (fun t a x q => e t a x (by omega)))
theorem GX_o {g g' : Gh} {f : Int → Int} {σ σ1 σ2 : Mem} (hg : GX g f σ) (h : GS g' σ1) (e : ∀ t a x, t ≠ 57 → σ2 t a x = σ1 t a x) (r : ∀ j, σ2 57 0 j = σ 57 0 j) : GX g' f σ2 := ⟨GS_57 h e, fun j => (r j).trans (hg.2 j)⟩
theorem GX_0 {g : Gh} {σ : Mem} (h : GS g σ) : GX g (fun _ => 0) (zr σ) := ⟨GS_57 h (fun t a x z => by
  unfold zr
  rw [if_neg z]), fun j => by
  unfold zr
  rw [if_pos rfl]⟩
theorem GX_up {g : Gh} {f : Int → Int} {σ : Mem} (h : GX g f σ) (i v : Int) : GX g (fun j => if j = i then v else f j) (up σ 57 0 i v) := ⟨GS_57 h.1 (fun t a x z => by
  unfold up
  rw [if_neg (fun q => z q.1)]), fun j => by
  unfold up
  dsimp only
  by_cases z : j = i
  · rw [if_pos ⟨rfl, rfl, z⟩, if_pos z]
  · rw [if_neg (fun q => z q.2.2), if_neg z]
    exact h.2 j⟩
theorem ak57 : ak 57 = some (0, 16) := rfl
theorem wInt : Cond.arrayClass .int ∈ lw_g := mg 96 (by decide +kernel) rfl
def T_X6_orderH : Tr := fun a σ K => match a with
  | [.inr (.inl (6, 0)), .inl m, .inl x] => ∃ g f, GX g f σ ∧ ∀ σ', GX g f σ' → K (some (ordA g.1 m x)) σ'
  | _ => False
theorem m_X6_orderH : ∀ a σ K, T_X6_orderH a σ K → M2 T_X6_orderG a σ K := by
  intro a σ K h
  unfold T_X6_orderH at h
  split at h
  · refine And.intro ⟨by decide, True.intro⟩ ?_
    unfold T_X6_orderG
    obtain ⟨g, f, hg, hk⟩ := h
    exact ⟨g, hg.1, fun σ1 h1 σ2 e r => hk σ2 (GX_o hg h1 e r)⟩
  · exact h.elim
def T_X6_lengthH : Tr := fun a σ K => match a with
  | [.inr (.inl (6, 0))] => ∃ g f, GX g f σ ∧ ∀ σ', GX g f σ' → K (some (lenA g.1)) σ'
  | _ => False
theorem m_X6_lengthH : ∀ a σ K, T_X6_lengthH a σ K → M2 T_X6_lengthG a σ K := by
  intro a σ K h
  unfold T_X6_lengthH at h
  split at h
  · refine And.intro ⟨by decide, True.intro⟩ ?_
    unfold T_X6_lengthG
    obtain ⟨g, f, hg, hk⟩ := h
    exact ⟨g, hg.1, fun σ1 h1 σ2 e r => hk σ2 (GX_o hg h1 e r)⟩
  · exact h.elim
def T_X6_countH : Tr := fun a σ K => match a with
  | [.inr (.inl (6, 0)), .inl w] => ∃ g f, GX g f σ ∧ ∀ σ', GX g f σ' → K (some (cntA g w)) σ'
  | _ => False
theorem m_X6_countH : ∀ a σ K, T_X6_countH a σ K → M2 T_X6_countG a σ K := by
  intro a σ K h
  unfold T_X6_countH at h
  split at h
  · refine And.intro ⟨by decide, True.intro⟩ ?_
    unfold T_X6_countG
    obtain ⟨g, f, hg, hk⟩ := h
    exact ⟨g, hg.1, fun σ1 h1 σ2 e r => hk σ2 (GX_o hg h1 e r)⟩
  · exact h.elim
def T_L_planH : Tr := fun a σ K => match a with
  | [.inr (.inl (6, 0))] => ∃ g f, GX g f σ ∧ ∀ σ', GX g f σ' → K (some 1) σ'
  | _ => False
theorem m_L_planH : ∀ a σ K, T_L_planH a σ K → M2 T_L_plan a σ K := by
  intro a σ K h
  unfold T_L_planH at h
  split at h
  · refine And.intro ⟨by decide, True.intro⟩ ?_
    unfold T_L_plan
    obtain ⟨g, f, hg, hk⟩ := h
    exact ⟨g, hg.1, fun σ1 h1 σ2 e r => hk σ2 (GX_o hg h1 e r)⟩
  · exact h.elim
def T_X6_bestH : Tr := fun a σ K => match a with
  | [.inr (.inl (6, 0)), .inl m, .inl x] => ∃ g f, GX g f σ ∧ ∀ σ', GX g f σ' → K (some (bA g.1 m x)) σ'
  | _ => False
theorem m_X6_bestH : ∀ a σ K, T_X6_bestH a σ K → M2 T_X6_bestG a σ K := by
  intro a σ K h
  unfold T_X6_bestH at h
  split at h
  · refine And.intro ⟨by decide, True.intro⟩ ?_
    unfold T_X6_bestG
    obtain ⟨g, f, hg, hk⟩ := h
    exact ⟨g, hg.1, fun σ1 h1 _ σ2 e r => hk σ2 (GX_o hg h1 e r)⟩
  · exact h.elim
def T_X6_takeBestH : Tr := fun a σ K => match a with
  | [.inr (.inl (6, 0))] => ∃ g f, GX g f σ ∧ ∀ σ', GX (bumpG g (cnV (orV g.1 (bfA g.1)))) f σ' → K (some (leA g.1)) σ'
  | _ => False
theorem m_X6_takeBestH : ∀ a σ K, T_X6_takeBestH a σ K → M2 T_X6_takeBestG a σ K := by
  intro a σ K h
  unfold T_X6_takeBestH at h
  split at h
  · refine And.intro ⟨by decide, True.intro⟩ ?_
    unfold T_X6_takeBestG
    obtain ⟨g, f, hg, hk⟩ := h
    exact ⟨g, hg.1, fun _ σ1 h1 σ2 e r => hk σ2 (GX_o hg h1 e r)⟩
  · exact h.elim
def T_X6_improveH : Tr := fun a σ K => match a with
  | [.inr (.inl (6, 0))] => ∃ g f, GX g f σ ∧ (pos g.1 → ∀ m x le, 0 ≤ m → m < 4 → 0 ≤ x → x + 1 < g.1 13 m → lenQ (g.1 10) (g.1 11) (g.1 12) (g.1 8) (g.1 13) (exQ (g.1 14) (4 * m + x)) le → ¬ le < LV g.1) ∧ ∀ σ', GX g f σ' → K (some (-5)) σ'
  | _ => False
theorem m_X6_improveH : ∀ a σ K, T_X6_improveH a σ K → M2 T_X6_improveR a σ K := by
  intro a σ K h
  unfold T_X6_improveH at h
  split at h
  · refine And.intro ⟨by decide, True.intro⟩ ?_
    unfold T_X6_improveR
    obtain ⟨g, f, hg, hn, hk⟩ := h
    exact ⟨g, hg.1, hn, fun σ1 h1 σ2 e r => hk σ2 (GX_o hg h1 e r)⟩
  · exact h.elim
