/-! the critical path of a view -/
theorem pV_s {v : Vw} (hw : wWF v) (hp : pos v) {k : Int} (k0 : 0 ≤ k) (k1 : k < nV v) : vOp (v 10) (pV v k) ∧ hV v (pV v k) + v 12 (pV v k) + tV v (pV v k) = LV v ∧ (k = 0 → hV v (pV v k) = v 8 (pV v k / 4)) ∧ (0 < k → hV v (pV v k) = hV v (pV v (k - 1)) + v 12 (pV v (k - 1)) ∧ (v 11 (pV v (k - 1)) ≠ v 11 (pV v k) → pV v k = pV v (k - 1) + 1)) := by
  have f := pos_f hw hp
  have P := f.2.2.2
  have pv := PTi_v hw.1 P
  obtain ⟨-, -, P1, P2, -⟩ := P
  have vk := pv.1 k k0 k1
  rcases (show k = 0 ∨ 0 < k by omega) with z | z
  · subst z
    have q := (P1 k1).1
    rcases q with ⟨e, -⟩ | ⟨_, _, c, d, _⟩
    · have := (P1 k1).2
      omega
    · exact ⟨vk, c, fun _ => d, fun q => by omega⟩
  · have q := P2 (k - 1) (by omega) (by omega)
    rw [show k - 1 + 1 = k by omega] at q
    rcases q.1 with ⟨a, e⟩ | ⟨_, a, e⟩ | ⟨_, _, e⟩
    · obtain ⟨a1, a2, a3⟩ := a
      rw [← e] at a2 a3
      exact ⟨vk, a2, fun q => by omega, fun _ => ⟨a3, fun _ => e⟩⟩
    · obtain ⟨a1, a2, a3⟩ := a
      have vm := oqN_v hw.1 (pv.1 (k - 1) (by omega) (by omega)) a1
      rw [← e] at a2 a3 vm
      exact ⟨vk, a2, fun q => by omega, fun _ => ⟨a3, fun ne => absurd vm.2.1.symm ne⟩⟩
    · have := q.2
      omega
theorem pV_lt {v : Vw} (hw : wWF v) (hp : pos v) : ∀ (n : Nat) (j k : Int), 0 ≤ j → j < k → k < nV v → k - j ≤ n → hV v (pV v j) < hV v (pV v k) := by
  intro n
  induction n with
  | zero => intro j k a b c d; omega
  | succ n ih =>
    intro j k a b c d
    have s := pV_s hw hp (show 0 ≤ k by omega) c
    have s' := pV_s hw hp (show 0 ≤ k - 1 by omega) (show k - 1 < nV v by omega)
    have e := (s.2.2.2 (by omega)).1
    have d1 := wWF_op hw s'.1
    rcases (show j = k - 1 ∨ j < k - 1 by omega) with q | q
    · rw [q]
      omega
    · have := ih j (k - 1) a q (by omega) (by omega)
      omega
theorem popA_k {v : Vw} (hw : wWF v) (hp : pos v) {k : Int} (k0 : 0 ≤ k) (k1 : k < nV v) : popA v (pV v k) = k := by
  have h : PoP (pV v) (nV v) (pV v k) k := Or.inr ⟨k0, k1, rfl, fun j a b e => by
    have := pV_lt hw hp (k - j).toNat j k a b k1 (by omega)
    rw [e] at this
    omega⟩
  exact (popA_is h (fun _ _ _ => rfl)).symm
theorem crit_ex {v : Vw} (hw : wWF v) (hp : pos v) : ∀ (n : Nat) (o : Int), vOp (v 10) o → hV v o ≤ n → hV v o + v 12 o + tV v o = LV v → ∃ r, vOp (v 10) r ∧ hV v r + v 12 r + tV v r = LV v ∧ hV v r = v 8 (r / 4) := by
  have f := pos_f hw hp
  intro n
  induction n with
  | zero =>
    intro o vo hn hc
    rcases (f.1 o vo).2.2 with q | ⟨o', v', p, q⟩
    · exact ⟨o, vo, hc, q⟩
    · have := (hV_b hw hp).1 o' v'
      have := wWF_op hw v'
      omega
  | succ n ih =>
    intro o vo hn hc
    rcases (f.1 o vo).2.2 with q | ⟨o', v', p, q⟩
    · exact ⟨o, vo, hc, q⟩
    · have d := wWF_op hw v'
      have t1 := (f.2.1 o' v').2.1 o vo p
      have m := f.2.2.1.2.1 o' v'
      dsimp only at m
      exact ih o' v' (by omega) (by omega)
theorem nV_0 {v : Vw} (hw : wWF v) (hp : pos v) (h : nV v = 0) : (∀ o, ¬ vOp (v 10) o) ∧ LV v = 0 := by
  have f := pos_f hw hp
  have no : ∀ o, ¬ vOp (v 10) o := fun o vo => by
    obtain ⟨L0, Lm, La⟩ := f.2.2.1
    have ex : ∃ o, vOp (v 10) o ∧ hV v o + v 12 o + tV v o = LV v := by
      rcases La with q | ⟨x, vx, q⟩
      · have m := Lm o vo
        dsimp only at m
        have d := wWF_op hw vo
        have b := (hV_b hw hp).1 o vo
        omega
      · exact ⟨x, vx, q⟩
    obtain ⟨x, vx, q⟩ := ex
    obtain ⟨r, vr, c, e⟩ := crit_ex hw hp (hV v x).toNat x vx (by omega) q
    have P := f.2.2.2.2.1 h
    rcases P with ⟨-, P⟩ | ⟨P, -⟩
    · exact P r vr vr.2.1 ⟨c, e⟩
    · have := P.1
      omega
  refine ⟨no, ?_⟩
  rcases f.2.2.1.2.2 with q | ⟨o, vo, -⟩
  · exact q
  · exact absurd vo (no o)
theorem nV_end {v : Vw} (hw : wWF v) (hp : pos v) (h : 0 < nV v) : hV v (pV v (nV v - 1)) + v 12 (pV v (nV v - 1)) = LV v := by
  have f := pos_f hw hp
  have s := pV_s hw hp (show 0 ≤ nV v - 1 by omega) (show nV v - 1 < nV v by omega)
  have P := f.2.2.2.2.2.2.2 h
  generalize pV v (nV v - 1) = o at s P ⊢
  have vo := s.1
  have no : ¬ rtN (v 10) (v 12) (hV v) (tV v) (LV v) o ∧ ¬ odN (v 10) (v 11) (v 12) (v 13) (v 14) (hV v) (tV v) (LV v) o := by
    rcases P with ⟨_, e⟩ | ⟨_, a, e⟩ | ⟨a, b, _⟩
    · have := vo.1
      omega
    · have := a.1
      omega
    · exact ⟨a, b⟩
  rcases (f.2.1 o vo).2.2 with q | ⟨o', v', p, q⟩
  · omega
  · have h1 := (f.1 o' v').2.1 o vo p
    have m := f.2.2.1.2.1 o' v'
    dsimp only at m
    have c : hV v o' + v 12 o' + tV v o' = LV v := by omega
    have e : hV v o' = hV v o + v 12 o := by omega
    rcases p with ⟨a, b⟩ | ⟨a, b⟩
    · have e' : o' = o + 1 := by omega
      subst e'
      have w := v'.2.2
      have u := vOp_j vo
      exact absurd ⟨by rw [show (o + 1) / 4 = o / 4 by omega] at w; omega, c, e⟩ no.1
    · have po' := plo_of hw.1 v'
      have eq : oqN (v 10) (v 11) (v 13) (v 14) o = o' := by
        unfold oqN
        rw [b, a, if_pos po'.2.1]
        exact po'.2.2
      refine absurd ?_ no.2
      unfold odN
      rw [eq]
      exact ⟨v'.1, c, e⟩
theorem blk_01 (mc p : Int → Int) (k : Int) : (k = 0 ∨ mc (p k) ≠ mc (p (k - 1)) → blk mc p k = 1) ∧ (¬ (k = 0 ∨ mc (p k) ≠ mc (p (k - 1))) → blk mc p k = 0) := ⟨fun h => b2i_1 h, fun h => b2i_0 h⟩
theorem wF_no {v : Vw} (hw : wWF v) (h : ∀ o, ¬ vOp (v 10) o) : wF (v 10) 0 (v 5 0) = 0 := by
  have z : ∀ j, 0 ≤ j → j < 4 → v 10 j = 0 := fun j a b => by
    have s := st_w hw a b
    rcases (show v 10 j = 0 ∨ 0 < v 10 j by omega) with q | q
    · exact q
    · exact absurd (last_v hw a b q) (h _)
  have e : wF (v 10) 0 (v 5 0) = wF (fun _ => 0) 0 (v 5 0) := wF_cg (fun k a b c => by rw [Int.zero_add]; exact z k a c)
  rw [e]
  unfold wF
  split
  · rfl
  · split
    · rfl
    · split
      · rfl
      · split <;> rfl
