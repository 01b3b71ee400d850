/-! no plan is shorter than the bound of a machine -/
noncomputable def jw (e : Int → Prop) (r q : Int → Int) (th s k v : Int) : Int := @ite _ (e k ∧ th ≤ q k ∧ s ≤ r k) (Classical.propDecidable _) v 0
theorem jw_1 {e : Int → Prop} {r q : Int → Int} {th s k v : Int} (h : e k ∧ th ≤ q k ∧ s ≤ r k) : jw e r q th s k v = v := by
  unfold jw
  rw [if_pos h]
theorem jw_0 {e : Int → Prop} {r q : Int → Int} {th s k v : Int} (h : ¬ (e k ∧ th ≤ q k ∧ s ≤ r k)) : jw e r q th s k v = 0 := by
  unfold jw
  rw [if_neg h]
noncomputable def jwS (e : Int → Prop) (r q : Int → Int) (th s : Int) (f : Int → Int) : Int := jw e r q th s 0 (f 0) + jw e r q th s 1 (f 1) + jw e r q th s 2 (f 2) + jw e r q th s 3 (f 3)
def jIn (e : Int → Prop) (p r q l : Int → Int) (t th s : Int) : Prop := 0 ≤ s ∧ s ≤ t ∧ t = s + jwS e r q th s (fun k => p k - l k) ∧ ∀ k, 0 ≤ k → k < 4 → e k → th ≤ q k → r k < s → l k ≤ 0
theorem jwS_z {e : Int → Prop} {r q : Int → Int} {th s : Int} {f : Int → Int} (h : ∀ k, 0 ≤ k → k < 4 → e k → th ≤ q k → s ≤ r k → f k = 0) : jwS e r q th s f = 0 := by
  have key : ∀ k, 0 ≤ k → k < 4 → jw e r q th s k (f k) = 0 := by
    intro k a b
    by_cases c : e k ∧ th ≤ q k ∧ s ≤ r k
    · rw [jw_1 c]
      exact h k a b c.1 c.2.1 c.2.2
    · exact jw_0 c
  unfold jwS
  rw [key 0 (by omega) (by omega), key 1 (by omega) (by omega), key 2 (by omega) (by omega), key 3 (by omega) (by omega)]
  rfl
theorem jwS_inc {e : Int → Prop} {r q : Int → Int} {th s c : Int} {f g : Int → Int} (c0 : 0 ≤ c) (c1 : c < 4) (hc : e c ∧ th ≤ q c ∧ s ≤ r c) (h : ∀ k, 0 ≤ k → k < 4 → g k = if k = c then f k + 1 else f k) : jwS e r q th s g = jwS e r q th s f + 1 := by
  have key : ∀ k, 0 ≤ k → k < 4 → jw e r q th s k (g k) = if k = c then jw e r q th s k (f k) + 1 else jw e r q th s k (f k) := by
    intro k a b
    rw [h k a b]
    by_cases d : k = c
    · subst d
      rw [if_pos rfl, if_pos rfl, jw_1 hc, jw_1 hc]
    · rw [if_neg d, if_neg d]
  unfold jwS
  rw [key 0 (by omega) (by omega), key 1 (by omega) (by omega), key 2 (by omega) (by omega), key 3 (by omega) (by omega)]
  rcases (show c = 0 ∨ c = 1 ∨ c = 2 ∨ c = 3 by omega) with rfl | rfl | rfl | rfl <;> simp only [Int.reduceEq, if_true, if_false] <;> omega
theorem jwS_le {e : Int → Prop} {r q : Int → Int} {th s : Int} {f g : Int → Int} (h : ∀ k, 0 ≤ k → k < 4 → e k → f k ≤ g k) : jwS e r q th s f ≤ jwS e r q th s g := by
  have key : ∀ k, 0 ≤ k → k < 4 → jw e r q th s k (f k) ≤ jw e r q th s k (g k) := by
    intro k a b
    by_cases c : e k ∧ th ≤ q k ∧ s ≤ r k
    · rw [jw_1 c, jw_1 c]
      exact h k a b c.1
    · rw [jw_0 c, jw_0 c]
      exact Int.le_refl _
  have h0 := key 0 (by omega) (by omega)
  have h1 := key 1 (by omega) (by omega)
  have h2 := key 2 (by omega) (by omega)
  have h3 := key 3 (by omega) (by omega)
  unfold jwS
  omega
/-- some one of them ends late -/
theorem jwS_end {e : Int → Prop} {p r q h : Int → Int} {th s c : Int} (c0 : 0 ≤ c) (c1 : c < 4) (hc : e c ∧ th ≤ q c ∧ s ≤ r c) (hh : ∀ k, 0 ≤ k → k < 4 → e k → 1 ≤ p k ∧ r k ≤ h k) (hd : ∀ k k', 0 ≤ k → k < k' → k' < 4 → e k → e k' → h k + p k ≤ h k' ∨ h k' + p k' ≤ h k) : ∃ k, 0 ≤ k ∧ k < 4 ∧ (e k ∧ th ≤ q k ∧ s ≤ r k) ∧ s + jwS e r q th s p ≤ h k + p k := by
  apply Classical.byContradiction
  intro hn
  have key : ∀ k, 0 ≤ k → k < 4 → (e k ∧ th ≤ q k ∧ s ≤ r k) → h k + p k < s + jwS e r q th s p := by
    intro k a b d
    rcases Int.lt_or_le (h k + p k) (s + jwS e r q th s p) with z | z
    · exact z
    · exact absurd ⟨k, a, b, d, z⟩ hn
  have k0 := key 0 (by omega) (by omega)
  have k1 := key 1 (by omega) (by omega)
  have k2 := key 2 (by omega) (by omega)
  have k3 := key 3 (by omega) (by omega)
  have h0 := hh 0 (by omega) (by omega)
  have h1 := hh 1 (by omega) (by omega)
  have h2 := hh 2 (by omega) (by omega)
  have h3 := hh 3 (by omega) (by omega)
  have d01 := hd 0 1 (by omega) (by omega) (by omega)
  have d02 := hd 0 2 (by omega) (by omega) (by omega)
  have d03 := hd 0 3 (by omega) (by omega) (by omega)
  have d12 := hd 1 2 (by omega) (by omega) (by omega)
  have d13 := hd 1 3 (by omega) (by omega) (by omega)
  have d23 := hd 2 3 (by omega) (by omega) (by omega)
  unfold jwS at k0 k1 k2 k3
  have hcc : c = 0 ∨ c = 1 ∨ c = 2 ∨ c = 3 := by omega
  by_cases m0 : e 0 ∧ th ≤ q 0 ∧ s ≤ r 0 <;> by_cases m1 : e 1 ∧ th ≤ q 1 ∧ s ≤ r 1 <;> by_cases m2 : e 2 ∧ th ≤ q 2 ∧ s ≤ r 2 <;> by_cases m3 : e 3 ∧ th ≤ q 3 ∧ s ≤ r 3 <;> simp only [jw_1, jw_0, m0, m1, m2, m3, not_false_eq_true, forall_const, and_self, true_implies, false_implies] at k0 k1 k2 k3 h0 h1 h2 h3 d01 d02 d03 d12 d13 d23
  all_goals first
    | omega
    | (exfalso
       rcases hcc with rfl | rfl | rfl | rfl
       · exact m0 hc
       · exact m1 hc
       · exact m2 hc
       · exact m3 hc)
theorem jps_in {e : Int → Prop} {p r q : Int → Int} (hp : ∀ k, 0 ≤ k → k < 4 → e k → 1 ≤ p k) {t : Nat} {l l' : Int → Int} {g c th s : Int} (hR : JR e p r q t l g) (hc : isC e r q l t c) (hl : (c = -6 ∧ ∀ k, 0 ≤ k → k < 4 → l' k = l k) ∨ (0 ≤ c ∧ ∀ k, 0 ≤ k → k < 4 → l' k = if k = c then l k - 1 else l k)) (h : jIn e p r q l t th s) : (0 ≤ c ∧ c < 4 ∧ e c ∧ th ≤ q c ∧ s ≤ r c ∧ jIn e p r q l' (t + 1) th s) ∨ ((c < 0 ∨ q c < th) ∧ jIn e p r q l' (t + 1) th (t + 1)) := by
  obtain ⟨s0, s1, s2, s3⟩ := h
  have nn := (JR_nn (fun k a b d => by have := hp k a b d; omega) hR).1
  rcases hc with ⟨b1, b2⟩ | ⟨b1, b2, b3, b4, b5⟩
  · right
    have hl' : ∀ k, 0 ≤ k → k < 4 → l' k = l k := by
      rcases hl with ⟨-, hl⟩ | ⟨hl, -⟩
      · exact hl
      · omega
    refine ⟨Or.inl (by omega), by omega, Int.le_refl _, ?_, fun k a b d1 d2 d3 => ?_⟩
    · rw [jwS_z (fun k a b d1 d2 d3 => ?_)]
      · omega
      · rw [hl' k a b]
        have := (nn k a b).2.2.2 d1 (by omega)
        omega
    · rw [hl' k a b]
      rcases Int.lt_or_le 0 (l k) with z | z
      · exact absurd ⟨d1, z, by omega⟩ (b2 k a b)
      · exact z
  · have hl' : ∀ k, 0 ≤ k → k < 4 → l' k = if k = c then l k - 1 else l k := by
      rcases hl with ⟨hl, -⟩ | ⟨-, hl⟩
      · omega
      · exact hl
    rcases Int.lt_or_le (q c) th with w | w
    · right
      refine ⟨Or.inr w, by omega, Int.le_refl _, ?_, fun k a b d1 d2 d3 => ?_⟩
      · rw [jwS_z (fun k a b d1 d2 d3 => ?_)]
        · omega
        · have := b3.2.2
          rw [hl' k a b, if_neg (fun z => by subst z; omega)]
          have := (nn k a b).2.2.2 d1 (by omega)
          omega
      · have hne : k ≠ c := fun z => by subst z; omega
        rw [hl' k a b, if_neg hne]
        rcases Int.lt_or_le 0 (l k) with z | z
        · have := b4 k a b ⟨d1, z, by omega⟩
          omega
        · exact z
    · left
      have hrc : s ≤ r c := by
        rcases Int.lt_or_le (r c) s with z | z
        · have := s3 c b1 b2 b3.1 w z
          have := b3.2.1
          omega
        · exact z
      refine ⟨b1, b2, b3.1, w, hrc, s0, by omega, ?_, fun k a b d1 d2 d3 => ?_⟩
      · rw [jwS_inc (f := fun k => p k - l k) b1 b2 ⟨b3.1, w, hrc⟩ (fun k a b => ?_)]
        · omega
        · rw [hl' k a b]
          split <;> omega
      · have := s3 k a b d1 d2 d3
        rw [hl' k a b]
        split <;> omega
theorem jps_le {e : Int → Prop} {p r q h tl : Int → Int} {u : Int} (hu : 0 ≤ u) (hh : ∀ k, 0 ≤ k → k < 4 → e k → 1 ≤ p k ∧ 0 ≤ r k ∧ 0 ≤ q k ∧ r k ≤ h k ∧ q k ≤ tl k ∧ h k + p k + tl k ≤ u) (hd : ∀ k k', 0 ≤ k → k < k' → k' < 4 → e k → e k' → h k + p k ≤ h k' ∨ h k' + p k' ≤ h k) : ∀ {t : Nat} {l : Int → Int} {g : Int}, JR e p r q t l g → (∀ th, ∃ s, jIn e p r q l t th s) ∧ g ≤ u := by
  intro t
  induction t with
  | zero =>
    intro l g hR
    refine ⟨fun th => ⟨0, by omega, by omega, ?_, fun k a b d1 d2 d3 => ?_⟩, by rw [hR.2]; exact hu⟩
    · rw [jwS_z (fun k a b d1 d2 d3 => ?_)]
      · rfl
      · have := (hR.1 k a b).1 d1
        omega
    · have := (hh k a b d1).2.1
      omega
  | succ t ih =>
    intro l' g' hR
    obtain ⟨l, g, c, h1, h2, h3⟩ := hR
    obtain ⟨i1, i2⟩ := ih h1
    have hl : (c = -6 ∧ ∀ k, 0 ≤ k → k < 4 → l' k = l k) ∨ (0 ≤ c ∧ ∀ k, 0 ≤ k → k < 4 → l' k = if k = c then l k - 1 else l k) := by
      rcases h3 with ⟨a1, a2, -⟩ | ⟨a1, a2, -⟩
      · exact Or.inl ⟨a1, a2⟩
      · exact Or.inr ⟨a1, a2⟩
    have step := fun th s (hs : jIn e p r q l t th s) => jps_in (fun k a b d => (hh k a b d).1) h1 h2 hl hs
    refine ⟨fun th => ?_, ?_⟩
    · obtain ⟨s, hs⟩ := i1 th
      rcases step th s hs with ⟨-, -, -, -, -, z⟩ | ⟨-, z⟩
      · exact ⟨s, z⟩
      · exact ⟨t + 1, z⟩
    · rcases h3 with ⟨a1, a2, a3⟩ | ⟨a1, a2, a3⟩
      · omega
      · rw [a3]
        split
        · rename_i hl1
          obtain ⟨s, hs⟩ := i1 (q c)
          rcases step (q c) s hs with ⟨z1, z2, z3, z4, z5, z6⟩ | ⟨z, -⟩
          · obtain ⟨k, k0, k1, k2, k3⟩ := jwS_end (h := h) z1 z2 ⟨z3, z4, z5⟩ (fun k a b d => ⟨(hh k a b d).1, (hh k a b d).2.2.2.1⟩) hd
            have nn := (JR_nn (fun k a b d => by have := (hh k a b d).1; omega) h1).1
            have hle : jwS e r q (q c) s (fun k => p k - l' k) ≤ jwS e r q (q c) s p := jwS_le (fun k a b d => by
              have := (nn k a b).1
              rw [a2 k a b]
              split
              · rename_i hk
                subst hk
                omega
              · omega)
            have := z6.2.2.1
            have := hh k k0 k1 k2.1
            have := k2.2.1
            omega
          · omega
        · exact i2
