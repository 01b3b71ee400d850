/-! the plans of all machines are laid -/
theorem PRM_c0 {n : Int} {v q q' : Int → Int} (h : PRM n v q) (e : ∀ k, 0 ≤ k → k < n → q' k = q k) : PRM n v q' := ⟨fun k a b => by
  obtain ⟨x, x0, x1, z⟩ := h.1 k a b
  exact ⟨x, x0, x1, by rw [e x x0 x1]; exact z⟩, fun k a b => by
  obtain ⟨x, x0, x1, z⟩ := h.2.1 k a b
  exact ⟨x, x0, x1, by rw [e k a b]; exact z⟩, h.2.2⟩
theorem arO_c0 {n f : Int} {v q q' : Int → Int} (hf : f ≤ n) (h : arO n f q v) (e : ∀ k, 0 ≤ k → k < n → q' k = q k) : arO n f q' v := ⟨PRM_c0 h.1 e, fun k a b => by rw [e k a (by omega)]; exact h.2 k a b⟩
/-- the plans of the machine m -/
def lmP (n f : Int) (q0 : Int → Int) (σ : Mem) (m : Int) : Prop := (1 ≤ σ 49 0 m ∧ σ 49 0 m ≤ 24) ∧ (∀ k, 0 ≤ k → k < σ 49 0 m → arO n f q0 (plR σ m k)) ∧ (∀ k k', 0 ≤ k → k < k' → k' < σ 49 0 m → nuQ n (plR σ m k) < nuQ n (plR σ m k')) ∧ ∀ g, arO n f q0 g → ∃ k, 0 ≤ k ∧ k < σ 49 0 m ∧ ∀ i, 0 ≤ i → i < n → plR σ m k i = g i
theorem lmP_cg {n f : Int} {q0 q0' : Int → Int} {σ σ' : Mem} {m : Int} (hf : f ≤ n) (n4 : n ≤ 4) (h : lmP n f q0 σ m) (e : ∀ k, 0 ≤ k → k < n → q0' k = q0 k) (eM : σ' 49 0 m = σ 49 0 m) (eP : ∀ x, 96 * m ≤ x → x < 96 * m + 96 → σ' 48 0 x = σ 48 0 x) : lmP n f q0' σ' m := by
  obtain ⟨h1, h2, h3, h4⟩ := h
  have ep : ∀ k, 0 ≤ k → k < σ 49 0 m → ∀ i, 0 ≤ i → i < n → plR σ' m k i = plR σ m k i := fun k k0 k1 i i0 i1 => eP _ (by omega) (by omega)
  refine ⟨by rw [eM]; exact h1, fun k k0 k1 => ?_, fun k k' k0 k1 k2 => ?_, fun g hg => ?_⟩
  · rw [eM] at k1
    exact arO_c0 hf (arO_cg hf (h2 k k0 k1) (ep k k0 k1)) e
  · rw [eM] at k2
    rw [nuQ_cg (ep k k0 (by omega)), nuQ_cg (ep k' (by omega) k2)]
    exact h3 k k' k0 k1 k2
  · obtain ⟨k, k0, k1, z⟩ := h4 g (arO_c0 hf hg (fun k a b => (e k a b).symm))
    exact ⟨k, k0, by rw [eM]; exact k1, fun i i0 i1 => by rw [ep k k0 k1 i i0 i1]; exact z i i0 i1⟩
def LAY (σ : Mem) (fs : Int → Int) (σ' : Mem) (m : Int) : Prop := rts σ' σ ∧ (∀ m', m ≤ m' → m' < 4 → ∀ k, 0 ≤ k → k < rLn σ m' → rQ σ' (4 * m' + k) = rQ σ (4 * m' + k)) ∧ ∀ m', 0 ≤ m' → m' < m → arO (rLn σ m') (fs m') (fun k => rQ σ (4 * m' + k)) (fun k => rQ σ' (4 * m' + k)) ∧ lmP (rLn σ m') (fs m') (fun k => rQ σ (4 * m' + k)) σ' m'
theorem LAY_0 {σ σ' : Mem} {fs : Int → Int} (h : σ' 38 0 = σ 38 0) : LAY σ fs σ' 0 := ⟨fun x _ _ => by rw [h], fun m _ _ k _ _ => by unfold rQ; rw [h], fun m a b => by omega⟩
theorem LAY_fr {σ σ' σ2 : Mem} {fs : Int → Int} {m : Int} (h : LAY σ fs σ' m) (e38 : σ2 38 0 = σ' 38 0) (e48 : σ2 48 0 = σ' 48 0) (e49 : σ2 49 0 = σ' 49 0) : LAY σ fs σ2 m := by
  have eq : rQ σ2 = rQ σ' := by
    funext x
    unfold rQ
    rw [e38]
  have ep : plR σ2 = plR σ' := by
    funext m k i
    unfold plR
    rw [e48]
  unfold LAY lmP rts
  rw [eq, ep, e49, e38]
  exact h
/-- laid: a search may begin -/
theorem LAY_sp {σ σ' : Mem} {fs : Int → Int} (hw : rWF σ) (hf : ∀ m, 0 ≤ m → m < 4 → 0 ≤ fs m ∧ fs m ≤ rLn σ m) (hb : ∀ o, rOp σ o → 0 ≤ σ' 43 0 o ∧ σ' 43 0 o ≤ 400 ∧ (σ' 44 0 o ≠ 0 → 0 ≤ σ' 45 0 o ∧ σ' 45 0 o ≤ 1000)) (h : LAY σ fs σ' 4) : SPr σ' (rQ σ) fs := by
  obtain ⟨h1, h2, h3⟩ := h
  obtain ⟨e0, e1, e2, e3, e4⟩ := rts_e h1
  have hl : ∀ m, 0 ≤ m → m < 4 → rLn σ m ≤ 4 := fun m a b => (hw.1.2.2.2.2.1 m a b).2
  have ag : ∀ q, AG (σ 38 0 0) (σ' 38 0 0) (rSt σ) (rSt σ') (rMc σ) (rMc σ') (rDu σ) (rDu σ') (rRe σ) (rRe σ') (rLn σ) (rLn σ') q q := fun q => ⟨e0.symm, fun j a b => (e1 j a b).1.symm, fun o v => ⟨(e2 o v.1 v.2.1).1.symm, (e2 o v.1 v.2.1).2.symm, (e1 _ (vOp_j v).1 (vOp_j v).2.1).2.1.symm⟩, fun m a b => (e3 m a b).symm, fun _ _ _ _ _ _ => rfl⟩
  have w0 := (ag (rQ σ)).wf hw.1
  have w1 := (ag (rQ σ')).wf (WF_arr hw.1 (fun m m0 m1 => (h3 m m0 m1).1.1))
  refine ⟨⟨⟨w1, fun j a b => ?_⟩, fun o v => hb o (by rw [← e4]; exact v)⟩, w0, fun m m0 m1 => by rw [e3 m m0 m1]; exact hf m m0 m1, fun m m0 m1 => ?_, fun m m0 m1 => ?_⟩
  · rw [e0] at b
    have j4 : j < 4 := by
      have := hw.1.1
      omega
    rw [(e1 j a j4).2.1, (e1 j a j4).2.2]
    exact hw.2 j a b
  · rw [e3 m m0 m1]
    exact (h3 m m0 m1).1
  · rw [e3 m m0 m1]
    exact (h3 m m0 m1).2
/-! the best plan, by the routes alone -/
/-- the length of the plan with the orders q -/
def lenQ (st mc du re ln q : Int → Int) (L : Int) : Prop := ∃ h, wH st mc du re ln q h ∧ 0 ≤ L ∧ (∀ o, vOp st o → h o + du o ≤ L) ∧ (L = 0 ∨ ∃ o, vOp st o ∧ h o + du o = L)
/-- the least length le, and f, the first one of the orders with it (of the same jobs as q0) -/
def bstS (st mc du re ln q0 : Int → Int) (le : Int) (f : Int → Int) : Prop := (∀ q, aQo ln (fun _ => 0) q0 q → ∀ L, lenQ st mc du re ln q L → le ≤ L) ∧ (le = 1000000 ∨ (0 ≤ le ∧ le ≤ 20000 ∧ aQo ln (fun _ => 0) q0 f ∧ lenQ st mc du re ln f le ∧ ∀ q, aQo ln (fun _ => 0) q0 q → lenQ st mc du re ln q le → ∀ m k, 0 ≤ m → m < 4 → 0 ≤ k → k < ln m → ahP ln f q m k → f (4 * m + k) ≤ q (4 * m + k)))
theorem LqO_len {σ σ' : Mem} {fs q : Int → Int} {L : Int} (hw : rWF σ) (hr : rts σ' σ) (hp : SPr σ' (rQ σ) fs) (hz : ∀ o, rOp σ o → σ' 43 0 o = 0 ∧ σ' 44 0 o = 0) (a : aQo (rLn σ) fs (rQ σ) q) : LqO σ' q L ↔ lenQ (rSt σ) (rMc σ) (rDu σ) (rRe σ) (rLn σ) q L := by
  obtain ⟨e0, e1, e2, e3, e4⟩ := rts_e hr
  have a' : aQo (rLn σ') fs (rQ σ) q := fun m m0 m1 => by rw [e3 m m0 m1]; exact a m m0 m1
  have k := KND_wq (SPr_l hp).1 (SPr_l hp).2 a'
  have ok := KND_ok hp k
  have hr2 : rts (wqM σ' q) σ := fun x x0 x1 => by rw [k.1 x x0 x1, hr x x0 x1]
  obtain ⟨f0, f1, f2, f3, f4⟩ := rts_e hr2
  have hl : ∀ m, 0 ≤ m → m < 4 → rLn σ m ≤ 4 := fun m a b => (hw.1.2.2.2.2.1 m a b).2
  have ag : AG (σ 38 0 0) (wqM σ' q 38 0 0) (rSt σ) (rSt (wqM σ' q)) (rMc σ) (rMc (wqM σ' q)) (rDu σ) (rDu (wqM σ' q)) (rRe σ) (rRe (wqM σ' q)) (rLn σ) (rLn (wqM σ' q)) q (rQ (wqM σ' q)) := ⟨f0.symm, fun j a b => (f1 j a b).1.symm, fun o v => ⟨(f2 o v.1 v.2.1).1.symm, (f2 o v.1 v.2.1).2.symm, (f1 _ (vOp_j v).1 (vOp_j v).2.1).2.1.symm⟩, fun m a b => (f3 m a b).symm, fun m k m0 m1 k0 k1 => by
    have := hl m m0 m1
    rw [wqM_q (by omega) (by omega)]⟩
  have w : WF (σ 38 0 0) (rSt σ) (rMc σ) (rDu σ) (rLn σ) q := WF_arr hw.1 (fun m m0 m1 => (a m m0 m1).1)
  have hH : ∀ h, SolF (rOp (wqM σ' q)) (hF (wqM σ' q) 4) h ↔ wH (rSt σ) (rMc σ) (rDu σ) (rRe σ) (rLn σ) q h := fun h => by
    rw [hF_is ok.1 (fun o v => by rw [f4] at v; rw [wqM_o (Or.inl (by omega))]; exact (hz o v).1) (fun o v => by rw [f4] at v; rw [wqM_o (Or.inl (by omega))]; exact (hz o v).2)]
    exact (ag.H w).symm
  have hd : ∀ o, rOp σ o → rDu (wqM σ' q) o = rDu σ o := fun o v => (f2 o v.1 v.2.1).2
  constructor
  · rintro ⟨h, h1, h2, h3, h4⟩
    rw [f4] at h3 h4
    refine ⟨h, (hH h).mp h1, h2, fun o v => ?_, ?_⟩
    · rw [← hd o v]
      exact h3 o v
    · rcases h4 with z | ⟨o, v, z⟩
      · exact Or.inl z
      · exact Or.inr ⟨o, v, by rw [← hd o v]; exact z⟩
  · rintro ⟨h, h1, h2, h3, h4⟩
    refine ⟨h, (hH h).mpr h1, h2, fun o v => ?_, ?_⟩
    · rw [f4] at v
      rw [hd o v]
      exact h3 o v
    · rcases h4 with z | ⟨o, v, z⟩
      · exact Or.inl z
      · exact Or.inr ⟨o, by rw [f4]; exact v, by rw [hd o v]; exact z⟩
theorem SRe_best {σ σ' σ2 : Mem} {le : Int} (hw : rWF σ) (hr : rts σ' σ) (hp : SPr σ' (rQ σ) (fun _ => 0)) (hz : ∀ o, rOp σ o → σ' 43 0 o = 0 ∧ σ' 44 0 o = 0) (h : SRe σ' (rQ σ) (fun _ => 0) σ2 le) : bstS (rSt σ) (rMc σ) (rDu σ) (rRe σ) (rLn σ) (rQ σ) le (σ2 51 0) := by
  obtain ⟨e0, e1, e2, e3, e4⟩ := rts_e hr
  have aa : ∀ q, aQo (rLn σ') (fun _ => 0) (rQ σ) q ↔ aQo (rLn σ) (fun _ => 0) (rQ σ) q := fun q => ⟨fun a m m0 m1 => by rw [← e3 m m0 m1]; exact a m m0 m1, fun a m m0 m1 => by rw [e3 m m0 m1]; exact a m m0 m1⟩
  have ll := fun q L (a : aQo (rLn σ) (fun _ => 0) (rQ σ) q) => LqO_len (L := L) hw hr hp hz a
  obtain ⟨-, h1, h2⟩ := h
  refine ⟨fun q a L hL => h1 q ((aa q).mpr a) L ((ll q L a).mpr hL), ?_⟩
  rcases h2 with z | ⟨z1, z2, z3, z4, z5⟩
  · exact Or.inl z
  · refine Or.inr ⟨z1, z2, (aa _).mp z3, (ll _ _ ((aa _).mp z3)).mp z4, fun q a hq m k m0 m1 k0 k1 ah => z5 q ((aa q).mpr a) ((ll q le a).mpr hq) m k m0 m1 k0 (by rw [e3 m m0 m1]; exact k1) (fun m' k' a0 b0 b1 hh => ah m' k' a0 b0 ?_ hh)⟩
    rw [← e3 m' a0 (by omega)]
    exact b1
