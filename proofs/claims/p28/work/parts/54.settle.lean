theorem mB_sol {σ : Mem} {n : Nat} {u m B : Int} {C : Int → Int → Prop} (hB : nB σ n) (hM : nM σ n) (hC : Sol (σ 15 n) (σ 16 n) (σ 17 n) (σ 18 n) u C) (hs : sbA (σ 15 n) (σ 16 n) (σ 20 n) C) (h0 : 0 ≤ u) (m0 : 0 ≤ m) (m1 : m < 4) (hb : mB σ n m B) : B ≤ u := by
  obtain ⟨hf, h, t, H, T, hu, hcl⟩ := hC
  obtain ⟨tt, l, hR, -⟩ := hb
  have v := fun k (k0 : 0 ≤ k) (k1 : k < 4) (d : bE σ n m k) => hB.2.2 m k m0 m1 k0 k1 d
  refine (jps_le (h := fun k => h (σ 19 n (4 * m + k))) (tl := fun k => t (σ 19 n (4 * m + k))) h0 (fun k k0 k1 d => ?_) (fun k k' k0 k1 k2 d d' => ?_) hR).2
  · obtain ⟨v1, v2, v3⟩ := v k k0 k1 d
    have g := clo_ge (u := u) hB hM hs H T v1
    have b := hB.2.1 _ v1
    have b2 := hM.2.2.2.2 _ v1
    have b3 := hu _ v1
    unfold bF
    omega
  · obtain ⟨v1, v2, v3⟩ := v k k0 (by omega) d
    obtain ⟨w1, w2, w3⟩ := v k' (by omega) k2 d'
    unfold bF
    have hne : σ 19 n (4 * m + k) ≠ σ 19 n (4 * m + k') := by
      intro z
      rw [z] at v3
      omega
    rcases hf _ _ v1 w1 hne (by omega) with c | c
    · left
      exact (H _ w1).2.1 _ v1 (Or.inr ⟨by omega, c⟩)
    · right
      exact (H _ v1).2.1 _ w1 (Or.inr ⟨by omega, c⟩)
/-! settling the places one after the other -/
/-- the job j has none of the places ahead of p on the machine of p -/
def lf (on f : Int → Int) (p j : Int) : Prop := 0 ≤ on (4 * (p / 4) + j) ∧ ∀ e, 4 * (p / 4) ≤ e → e < p → f e ≠ j
/-- the job at the place e goes ahead of all that are left there -/
def fst (on f : Int → Int) (C : Int → Int → Prop) (e : Int) : Prop := 0 ≤ f e → ∀ j, 0 ≤ j → j < 4 → lf on f e j → j ≠ f e → C (on (4 * (e / 4) + f e)) (on (4 * (e / 4) + j))
/-- the places below p are settled: a0 is what was decided before, ah what is settled, w a witness -/
def SQ (st mc du rd on a0 ah w f : Int → Int) (u p : Int) : Prop := NB st mc du rd on ∧ NA st mc on ah ∧ mnA st a0 ah ∧ NA st mc on w ∧ mnA st ah w ∧ Sol st mc du rd u (rA w) ∧ (∀ e, 0 ≤ e → e < p → (f e = -6 ∧ ∀ j, 0 ≤ j → j < 4 → ¬ lf on f e j) ∨ (0 ≤ f e ∧ f e < 4 ∧ lf on f e (f e))) ∧ (∀ e, 0 ≤ e → e < p → 0 ≤ f e → ∀ j, 0 ≤ j → j < 4 → lf on f e j → j ≠ f e → hasB (ah (on (4 * (e / 4) + j))) (f e)) ∧ (∀ C, Sol st mc du rd u C → sbA st mc a0 C → (∀ e, 0 ≤ e → e < p → fst on f C e) → sbA st mc ah C) ∧ (∀ C, Sol st mc du rd u C → sbA st mc a0 C → ∀ e, 0 ≤ e → e < p → (∀ e', 0 ≤ e' → e' < e → fst on f C e') → ∀ j, 0 ≤ j → j < f e → lf on f e j → ∃ k, 0 ≤ k ∧ k < 4 ∧ lf on f e k ∧ k ≠ j ∧ C (on (4 * (e / 4) + k)) (on (4 * (e / 4) + j)))
theorem lf_cg {on f : Int → Int} {p v e j : Int} (he : e ≤ p) : lf on (fun x => if x = p then v else f x) e j ↔ lf on f e j := by
  unfold lf
  constructor
  · rintro ⟨a, b⟩
    refine ⟨a, fun x x0 x1 => ?_⟩
    have := b x x0 x1
    have hne : ¬ x = p := by omega
    simp only [if_neg hne] at this
    exact this
  · rintro ⟨a, b⟩
    refine ⟨a, fun x x0 x1 => ?_⟩
    have hne : ¬ x = p := by omega
    simp only [if_neg hne]
    exact b x x0 x1
theorem fst_cg {on f : Int → Int} {C : Int → Int → Prop} {p v e : Int} (he : e < p) : fst on (fun x => if x = p then v else f x) C e ↔ fst on f C e := by
  unfold fst
  have hne : ¬ e = p := by omega
  simp only [if_neg hne, lf_cg (show e ≤ p by omega)]
theorem SQ_w {st mc du rd on a0 ah w f : Int → Int} {u p : Int} (h : SQ st mc du rd on a0 ah w f u p) {w' : Int → Int} (h1 : NA st mc on w') (h2 : mnA st ah w') (h3 : Sol st mc du rd u (rA w')) : SQ st mc du rd on a0 ah w' f u p := ⟨h.1, h.2.1, h.2.2.1, h1, h2, h3, h.2.2.2.2.2.2⟩
/-- a set of operations of one machine, no one of them first: there is none -/
theorem first_ex {st mc du rd : Int → Int} {u : Int} {C : Int → Int → Prop} (hd : ∀ o, vOp st o → 1 ≤ du o ∧ 0 ≤ rd o) (hC : Clo st mc du rd u C) {U : Int → Prop} (hU : ∀ o, U o → vOp st o) (hn : ∀ o, U o → ∃ o', U o' ∧ mc o' = mc o ∧ C o' o) : ∀ o, ¬ U o := by
  obtain ⟨h, t, H, -⟩ := hC
  exact head_none (V := vOp st) (U := U) (P := pA mc C) (d := du) (r := rd) (h := h) (fun o v => (hd o v).1) (fun o v => (hd o v).2) hU (fun o uo => by
    obtain ⟨o', u', m', c'⟩ := hn o uo
    exact ⟨o', u', Or.inr ⟨m', c'⟩⟩) H
/-- no job is left that may be the first: none is left -/
theorem SQ_none {st mc du rd on a0 ah w f : Int → Int} {u p : Int} (h : SQ st mc du rd on a0 ah w f u p) (p0 : 0 ≤ p) (p1 : p < 16) (hn : ∀ j, 0 ≤ j → j < 4 → lf on f p j → ∀ C, Sol st mc du rd u C → sbA st mc ah C → ∃ k, 0 ≤ k ∧ k < 4 ∧ lf on f p k ∧ k ≠ j ∧ C (on (4 * (p / 4) + k)) (on (4 * (p / 4) + j))) : SQ st mc du rd on a0 ah w (fun x => if x = p then -6 else f x) u (p + 1) := by
  obtain ⟨b1, b2, b3, b4, b5, b6, b7, b8, b9, b10⟩ := h
  have hno : ∀ j, 0 ≤ j → j < 4 → ¬ lf on f p j := by
    intro j j0 j1 hl
    refine first_ex (u := u) (C := rA w) (U := fun o => ∃ k, 0 ≤ k ∧ k < 4 ∧ lf on f p k ∧ o = on (4 * (p / 4) + k)) (fun o v => ⟨(b1.2.1 o v).2.2.1, (b1.2.1 o v).2.2.2.2.1⟩) b6.2 ?_ ?_ _ ⟨j, j0, j1, hl, rfl⟩
    · rintro o ⟨k, k0, k1, k2, rfl⟩
      exact (b1.2.2 (p / 4) k (by omega) (by omega) k0 k1 k2.1).1
    · rintro o ⟨k, k0, k1, k2, rfl⟩
      obtain ⟨k', q0, q1, q2, q3, q4⟩ := hn k k0 k1 k2 (rA w) b6 (sbA_rA b5)
      refine ⟨_, ⟨k', q0, q1, q2, rfl⟩, ?_, q4⟩
      rw [(b1.2.2 (p / 4) k (by omega) (by omega) k0 k1 k2.1).2.1, (b1.2.2 (p / 4) k' (by omega) (by omega) q0 q1 q2.1).2.1]
  refine ⟨b1, b2, b3, b4, b5, b6, fun e e0 e1 => ?_, fun e e0 e1 => ?_, fun C hC hs hf => b9 C hC hs (fun e e0 e1 => (fst_cg e1).mp (hf e e0 (by omega))), fun C hC hs e e0 e1 hf => ?_⟩
  · by_cases c : e = p
    · subst c
      left
      refine ⟨if_pos rfl, fun j j0 j1 => ?_⟩
      rw [lf_cg (Int.le_refl e)]
      exact hno j j0 j1
    · dsimp only
      rw [if_neg c]
      simp only [lf_cg (show e ≤ p by omega)]
      exact b7 e e0 (by omega)
  · by_cases c : e = p
    · dsimp only
      rw [if_pos c]
      intro q
      omega
    · dsimp only
      rw [if_neg c]
      simp only [lf_cg (show e ≤ p by omega)]
      exact b8 e e0 (by omega)
  · by_cases c : e = p
    · dsimp only
      rw [if_pos c]
      intro j q0 q1
      omega
    · dsimp only
      rw [if_neg c]
      simp only [lf_cg (show e ≤ p by omega)]
      exact b10 C hC hs e e0 (by omega) (fun e' q0 q1 => (fst_cg (by omega)).mp (hf e' q0 q1))
/-- the row where j goes ahead of all that are left -/
theorem first_row {st mc du rd on ah ah' : Int → Int} (hB : NB st mc du rd on) (hA : NA st mc on ah) {m j : Int} (m0 : 0 ≤ m) (m1 : m < 4) (j0 : 0 ≤ j) (j1 : j < 4) (hj : 0 ≤ on (4 * m + j)) {U : Int → Prop} (hU : ∀ k, 0 ≤ k → k < 4 → U k → 0 ≤ on (4 * m + k) ∧ k ≠ j) (h1 : ∀ k, 0 ≤ k → k < 4 → U k → ah' (on (4 * m + k)) = bor (ah (on (4 * m + k))) (bshl 1 j)) (h2 : ∀ o, 0 ≤ o → o < 16 → (∀ k, 0 ≤ k → k < 4 → U k → on (4 * m + k) ≠ o) → ah' o = ah o) : NA st mc on ah' ∧ mnA st ah ah' ∧ (∀ k, 0 ≤ k → k < 4 → U k → hasB (ah' (on (4 * m + k))) j) ∧ ∀ C, sbA st mc ah C → (∀ k, 0 ≤ k → k < 4 → U k → C (on (4 * m + j)) (on (4 * m + k))) → sbA st mc ah' C := by
  have cases : ∀ o, vOp st o → (∃ k, 0 ≤ k ∧ k < 4 ∧ U k ∧ on (4 * m + k) = o) ∨ ah' o = ah o := by
    intro o v
    by_cases c : ∃ k, 0 ≤ k ∧ k < 4 ∧ U k ∧ on (4 * m + k) = o
    · exact Or.inl c
    · exact Or.inr (h2 o v.1 v.2.1 (fun k k0 k1 k2 k3 => c ⟨k, k0, k1, k2, k3⟩))
  have bit : ∀ k, 0 ≤ k → k < 4 → U k → ∀ b, 0 ≤ b → b < 4 → (hasB (ah' (on (4 * m + k))) b ↔ hasB (ah (on (4 * m + k))) b ∨ b = j) := by
    intro k k0 k1 k2 b b0 b1
    have v := (hB.2.2 m k m0 m1 k0 k1 (hU k k0 k1 k2).1).1
    obtain ⟨r0, r1, -⟩ := hA _ v
    rw [h1 k k0 k1 k2, bit_or r0 r1 j0 j1 b0 b1]
  refine ⟨fun o v => ?_, fun o k v k0 k1 q => ?_, fun k k0 k1 k2 => (bit k k0 k1 k2 j j0 j1).mpr (Or.inr rfl), fun C hs hC o' o v' v hm hb => ?_⟩
  · rcases cases o v with ⟨k, k0, k1, k2, rfl⟩ | e
    · obtain ⟨r0, r1, r2⟩ := hA _ v
      have hr := bit_or_r r0 r1 j0 j1
      rw [h1 k k0 k1 k2]
      refine ⟨hr.1, hr.2, fun b b0 b1 q => ?_⟩
      rw [← h1 k k0 k1 k2] at q
      rcases (bit k k0 k1 k2 b b0 b1).mp q with c | c
      · exact r2 b b0 b1 c
      · have v3 := hB.2.2 m k m0 m1 k0 k1 (hU k k0 k1 k2).1
        refine ⟨?_, ?_⟩
        · rw [v3.2.2, c]
          exact Ne.symm (hU k k0 k1 k2).2
        · rw [v3.2.1, c]
          exact hj
    · rw [e]
      exact hA o v
  · rcases cases o v with ⟨k', q0, q1, q2, rfl⟩ | e
    · exact (bit k' q0 q1 q2 k k0 k1).mpr (Or.inl q)
    · rw [e]
      exact q
  · rcases cases o v with ⟨k, k0, k1, k2, rfl⟩ | e
    · have hj' := vOp_j v'
      rcases (bit k k0 k1 k2 (o' / 4) hj'.1 hj'.2.1).mp hb with c | c
      · exact hs o' _ v' v hm c
      · have eo := (hB.2.1 o' v').2.2.2.2.2.2
        rw [hm, (hB.2.2 m k m0 m1 k0 k1 (hU k k0 k1 k2).1).2.1, c] at eo
        rw [← eo]
        exact hC k k0 k1 k2
    · rw [e] at hb
      exact hs o' o v' v hm hb
/-- j is settled at the place p -/
theorem SQ_put {st mc du rd on a0 ah w f : Int → Int} {u p j : Int} (h : SQ st mc du rd on a0 ah w f u p) (p0 : 0 ≤ p) (p1 : p < 16) (j0 : 0 ≤ j) (j1 : j < 4) (hl : lf on f p j) {ah' w' : Int → Int} (hA : NA st mc on ah') (hm : mnA st ah ah') (hb : ∀ k, 0 ≤ k → k < 4 → lf on f p k → k ≠ j → hasB (ah' (on (4 * (p / 4) + k))) j) (hs : ∀ C, sbA st mc ah C → (∀ k, 0 ≤ k → k < 4 → lf on f p k → k ≠ j → C (on (4 * (p / 4) + j)) (on (4 * (p / 4) + k))) → sbA st mc ah' C) (w1 : NA st mc on w') (w2 : mnA st ah' w') (w3 : Sol st mc du rd u (rA w')) (hn : ∀ j', 0 ≤ j' → j' < j → lf on f p j' → ∀ C, Sol st mc du rd u C → sbA st mc ah C → ∃ k, 0 ≤ k ∧ k < 4 ∧ lf on f p k ∧ k ≠ j' ∧ C (on (4 * (p / 4) + k)) (on (4 * (p / 4) + j'))) : SQ st mc du rd on a0 ah' w' (fun x => if x = p then j else f x) u (p + 1) := by
  obtain ⟨b1, b2, b3, b4, b5, b6, b7, b8, b9, b10⟩ := h
  refine ⟨b1, hA, b3.t hm, w1, w2, w3, fun e e0 e1 => ?_, fun e e0 e1 => ?_, fun C hC hs0 hf => ?_, fun C hC hs0 e e0 e1 hf => ?_⟩
  · by_cases c : e = p
    · subst c
      right
      dsimp only
      rw [if_pos rfl, lf_cg (Int.le_refl e)]
      exact ⟨j0, j1, hl⟩
    · dsimp only
      rw [if_neg c]
      simp only [lf_cg (show e ≤ p by omega)]
      exact b7 e e0 (by omega)
  · by_cases c : e = p
    · subst c
      dsimp only
      rw [if_pos rfl]
      simp only [lf_cg (Int.le_refl e)]
      exact fun _ k k0 k1 k2 k3 => hb k k0 k1 k2 k3
    · dsimp only
      rw [if_neg c]
      simp only [lf_cg (show e ≤ p by omega)]
      intro q k k0 k1 k2 k3
      have hr : vOp st (on (4 * (e / 4) + k)) := (b1.2.2 (e / 4) k (by omega) (by omega) k0 k1 k2.1).1
      have hfe : f e < 4 := by
        rcases b7 e e0 (by omega) with z | z <;> omega
      exact hm _ _ hr q hfe (b8 e e0 (by omega) q k k0 k1 k2 k3)
  · have hs1 := b9 C hC hs0 (fun e e0 e1 => (fst_cg e1).mp (hf e e0 (by omega)))
    refine hs C hs1 (fun k k0 k1 k2 k3 => ?_)
    have := hf p p0 (by omega)
    unfold fst at this
    simp only [if_true, lf_cg (Int.le_refl p)] at this
    exact this j0 k k0 k1 k2 k3
  · by_cases c : e = p
    · subst c
      dsimp only
      rw [if_pos rfl]
      simp only [lf_cg (Int.le_refl e)]
      intro j' q0 q1 q2
      exact hn j' q0 q1 q2 C hC (b9 C hC hs0 (fun e' r0 r1 => (fst_cg r1).mp (hf e' r0 r1)))
    · dsimp only
      rw [if_neg c]
      simp only [lf_cg (show e ≤ p by omega)]
      exact b10 C hC hs0 e e0 (by omega) (fun e' q0 q1 => (fst_cg (by omega)).mp (hf e' q0 q1))
