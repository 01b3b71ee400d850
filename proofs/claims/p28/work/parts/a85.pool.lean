/-! from the two constructors to the pool; the start of the law -/
section
variable {D : va_G} {cy : Nat → ClassId} {A : Nat → Prop} {H : Heap}
theorem ky_sub {ad : Nat → Nat → Nat} {K L : List (Nat × Nat)} (h : ∀ c ∈ L, c ∈ K) (hP : va_P D classes (kyW cy ad K) H) : va_P D classes (kyW cy ad L) H := by
  intro k q hq
  unfold kyW at hq
  rw [List.getElem?_map] at hq
  cases hk : L[k]? with
  | none => rw [hk] at hq; cases hq
  | some c =>
    rw [hk] at hq
    obtain rfl : _ = q := Option.some.inj hq
    obtain ⟨j, hj⟩ := List.getElem?_of_mem (h c (List.mem_of_getElem? hk))
    exact hP j _ (by unfold kyW; rw [List.getElem?_map, hj]; rfl)
theorem ky_subD {ad : Nat → Nat → Nat} {K L : List (Nat × Nat)} (h : ∀ c ∈ L, c ∈ K) (hn : L.Nodup) (hD : va_D A (kyW cy ad K)) : va_D A (kyW cy ad L) := by
  have hg : ∀ (k : Nat) (q : Nat × va_E), (kyW cy ad L)[k]? = some q → ∃ (c : Nat × Nat) (j : Nat), L[k]? = some c ∧ K[j]? = some c ∧ (kyW cy ad K)[j]? = some q := by
    intro k q hq
    unfold kyW at hq
    rw [List.getElem?_map] at hq
    cases hk : L[k]? with
    | none => rw [hk] at hq; cases hq
    | some c =>
      rw [hk] at hq
      obtain rfl : _ = q := Option.some.inj hq
      obtain ⟨j, hj⟩ := List.getElem?_of_mem (h c (List.mem_of_getElem? hk))
      exact ⟨c, j, rfl, hj, by unfold kyW; rw [List.getElem?_map, hj]; rfl⟩
  refine ⟨fun i j p q hp hq e => ?_, fun k q hk => ?_⟩
  · obtain ⟨c, i', h1, h2, h3⟩ := hg i p hp
    obtain ⟨d, j', h4, h5, h6⟩ := hg j q hq
    have hij := hD.1 i' j' p q h3 h6 e
    subst hij
    obtain rfl : c = d := Option.some.inj (h2.symm.trans h5)
    exact (List.getElem?_inj (List.getElem?_eq_some_iff.mp h1).1 hn).mp (h1.trans h4.symm)
  · obtain ⟨c, j, h1, h2, h3⟩ := hg k q hk
    exact hD.2 j q h3
theorem ky_arrC {args : Array Value} {s : State} {ty : FieldType} (hty : ∀ C, ty ≠ .object C) (h : (Cond.arrayClass ty).before args s = true) : ∃ c : ClassId, ArrOfT s c ty ∧ va_RA s c ty := by
  obtain ⟨comp, kC, cc, h1, h2, h3⟩ := Cond.arrayClass_spec h
  refine ⟨comp, fun N z => ⟨(fun k h => by cases h), kC, h2, cc, h3⟩, ?_⟩
  cases ty with
  | object C => exact absurd rfl (hty C)
  | _ => exact h1
theorem ky_arrO {args : Array Value} {s : State} {C : String} (h : (Cond.arrayOver (.object C)).before args s = true) : ∃ c : ClassId, ArrOfT s c (.object C) ∧ va_RA s c (.object C) := by
  obtain ⟨comp, c, k, h1, h2, h3, h4, h5⟩ := Cond.arrayOver_spec h
  exact ⟨c, fun N z => ⟨(fun k h => by cases h), k, h3, comp, h4⟩, k, comp, h3, h4, h1, h5⟩
theorem ky_arrA {args : Array Value} {s : State} {ty : FieldType} (h : (Cond.arrayOver (.array ty)).before args s = true) : ∃ c : ClassId, ArrOfT s c (.array ty) ∧ va_RA s c (.array ty) := by
  obtain ⟨comp, c, k, h1, h2, h3, h4, h5⟩ := Jvm.Stand.arrayOver_specB h
  exact ⟨c, fun N z => ⟨(fun k h => by cases h), k, h3, comp, h4⟩, h5⟩
theorem nw_of {args : Array Value} {s : State} (h : ∀ w ∈ lw_tbl, w.before args s = true) : ∀ w ∈ nw, va_Nw w s := by
  intro w hw
  have h1 := h w (List.mem_filter.mp hw).1
  have h2 := (List.mem_filter.mp hw).2
  cases w <;> first | (cases h2; done) | skip
  exact va_Nw.of rfl h1
theorem wt {w : Cond} (i : Nat) (h : lw_tbl[i]? = some w) : w ∈ lw_tbl := List.mem_of_getElem? h
end
