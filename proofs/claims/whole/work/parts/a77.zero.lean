/-! the two sides agree at the start: everything is 0 -/
theorem SIM_0 (i : Nat) (f : Int → Int) (hf : ∀ x, f x = 0) : SIM (fun _ _ _ => 0) i f := by
  refine SIM_k (WF_0 (fun _ _ _ => rfl) (fun _ _ _ => rfl)) (fun j a b => by omega) (hf 0).symm (fun j a b => (hf _).symm) (fun o v => ⟨(hf _).symm, (hf _).symm, (hf _).symm⟩) (fun m a b => (hf _).symm) (fun m k a b c d => (hf _).symm) (fun j a b => ⟨(hf _).symm, (hf _).symm⟩)
theorem REL_0 : REL (fun _ _ _ => 0) := ⟨SIM_0 0 _ (fun _ => rfl), ⟨⟨Int.le_refl 0, (by decide : (0 : Int) < 6), Int.le_refl 0, (by decide : (0 : Int) ≤ 6)⟩, rfl, fun d a (b : d < 0) => absurd a (by omega)⟩, fun s a b => ⟨Iff.rfl, fun q => absurd rfl q⟩, ⟨rfl, Int.le_refl 0, (by decide : (0 : Int) ≤ 80), fun _ _ => rfl⟩, RCa_0 rfl rfl rfl⟩
