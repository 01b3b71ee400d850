/-- the place on the path, among the first x -/
def PoI (p : Int → Int) (x o : Int) : Prop := ∀ k, 0 ≤ k → k < x → p k ≠ o
theorem PoI_s {p : Int → Int} {x o : Int} (h : PoI p x o) (hn : p x ≠ o) : PoI p (x + 1) o := fun k k0 k1 => by
  rcases (show k < x ∨ k = x by omega) with c | rfl
  · exact h k k0 c
  · exact hn
theorem blk_r (mc p : Int → Int) (n : Nat) : 0 ≤ sm (blk mc p) n ∧ sm (blk mc p) n ≤ n := by
  have := sm_r (f := blk mc p) (b := 1) (fun i => b2i_r _) n
  omega
