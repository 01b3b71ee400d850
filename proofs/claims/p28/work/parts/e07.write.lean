/-! the text of a plan: written, read -/
theorem uq_at (q : Int → Int) (x d : Int) : uq q x d x = d := by
  unfold uq
  rw [if_pos rfl]
theorem uq_ne (q : Int → Int) {x d y : Int} (h : y ≠ x) : uq q x d y = q y := by
  unfold uq
  rw [if_neg h]
theorem dg_of {f : Int → Int} {n a d : Int} (h : nx f n a = 48 + d) (d0 : 0 ≤ d) (d9 : d ≤ 9) : dg f n a = d := by
  unfold dg
  rw [h, if_pos ⟨by omega, by omega⟩]
  omega
/-- at a stands what the law writes of the machine m -/
def Seg (v : Vw) (f : Int → Int) (n m a : Int) : Prop := nx f n a = 48 + m ∧ nx f n (a + 1) = 58 ∧ (∀ x, 0 ≤ x → x < v 13 m → nx f n (a + 2 + x) = 48 + v 14 (4 * m + x)) ∧ dg f n (a + 2 + v 13 m) = -6
/-- at a begins what it writes of the machines from m on -/
def Txt (v : Vw) (f : Int → Int) (n : Int) : Nat → Int → Int → Prop
  | 0, _, _ => False
  | k + 1, m, a => (v 13 m = 0 ∧ Txt v f n k (m + 1) a) ∨ (0 < v 13 m ∧ Seg v f n m a ∧ ((a + 2 + v 13 m = n ∧ ∀ m', m < m' → m' < 4 → v 13 m' = 0) ∨ (nx f n (a + 2 + v 13 m) = 59 ∧ Txt v f n k (m + 1) (a + 2 + v 13 m + 1))))
theorem jb_rd {v : Vw} (hw : wWF v) {f : Int → Int} {n m a : Int} (m0 : 0 ≤ m) (m1 : m < 4) (h : ∀ x, 0 ≤ x → x < v 13 m → nx f n (a + x) = 48 + v 14 (4 * m + x)) (he : dg f n (a + v 13 m) = -6) : ∀ (d : Nat) (i : Int) (q : Int → Int), 0 ≤ i → i + d = v 13 m → (∀ x, 0 ≤ x → x < i → q (4 * m + x) = v 14 (4 * m + x)) → ∃ q', jbS f n m (4 - i).toNat i (a + i) q = (a + v 13 m, v 13 m, q') ∧ (∀ x, 0 ≤ x → x < v 13 m → q' (4 * m + x) = v 14 (4 * m + x)) ∧ ∀ y, (y < 4 * m ∨ 4 * m + 4 ≤ y) → q' y = q y := by
  have l4 := (ln_w hw m0 m1).2
  have J4 := hw.1.1
  intro d
  induction d with
  | zero =>
    intro i q i0 hi hq
    have e : i = v 13 m := by omega
    subst e
    refine ⟨q, ?_, hq, fun _ _ => rfl⟩
    cases hf : (4 - v 13 m).toNat with
    | zero => rfl
    | succ k =>
      rw [jbS_1, cif_0 (fun z => by omega)]
  | succ d ih =>
    intro i q i0 hi hq
    have il : i < v 13 m := by omega
    have j := oq_j hw m0 m1 i0 il
    have ed := dg_of (h i i0 il) j.1 (by omega)
    rw [show (4 - i).toNat = (4 - (i + 1)).toNat + 1 by omega, jbS_1, ed]
    rw [cif_1 ⟨j.1, by omega, fun z => by
      obtain ⟨i', a0, a1, a2⟩ := z
      rw [hq i' a0 a1] at a2
      have := hw.1.2.2.2.2.2.2.1 m i' i m0 m1 a0 (by omega) i0 il a2
      omega⟩]
    obtain ⟨q', b1, b2, b3⟩ := ih (i + 1) (uq q (4 * m + i) (v 14 (4 * m + i))) (by omega) (by omega) (fun x x0 x1 => by
      by_cases z : x = i
      · rw [z, uq_at]
      · rw [uq_ne _ (by omega)]
        exact hq x x0 (by omega))
    refine ⟨q', ?_, b2, fun y hy => ?_⟩
    · rw [← b1, show a + (i + 1) = a + i + 1 by omega]
    · rw [b3 y hy, uq_ne _ (by omega)]
theorem ord_rd {v : Vw} (hw : wWF v) {f : Int → Int} {n m a : Int} {ln q : Int → Int} (m0 : 0 ≤ m) (m1 : m < 4) (hl : ln m < 0) (S : Seg v f n m a) : ∃ q', ordS f n ln q a = (0, a + 2 + v 13 m, uq ln m (v 13 m), q') ∧ (∀ x, 0 ≤ x → x < v 13 m → q' (4 * m + x) = v 14 (4 * m + x)) ∧ ∀ y, (y < 4 * m ∨ 4 * m + 4 ≤ y) → q' y = q y := by
  obtain ⟨s1, s2, s3, s4⟩ := S
  have l := ln_w hw m0 m1
  obtain ⟨q', b1, b2, b3⟩ := jb_rd hw (a := a + 2) m0 m1 s3 s4 (v 13 m).toNat 0 q (Int.le_refl 0) (by omega) (fun x x0 x1 => by omega)
  refine ⟨q', ?_, b2, b3⟩
  have ed := dg_of s1 m0 (by omega)
  have b1' : jbS f n m 4 0 (a + 2) q = (a + 2 + v 13 m, v 13 m, q') := by
    rw [← b1, show a + 2 + 0 = a + 2 by omega]
    rfl
  unfold ordS
  rw [ed, cif_0 (fun z => by omega), cif_0 (fun z => z s2), b1']
theorem nx_n {f : Int → Int} {n : Int} : nx f n n = 0 := by
  unfold nx
  rw [if_neg (by omega)]
theorem pl_rd {v : Vw} (hw : wWF v) {f : Int → Int} {n : Int} : ∀ (k : Nat) (m a j : Int) (ln q : Int → Int), m + k = 4 → 0 ≤ m → 0 ≤ j → j ≤ m → (∀ m', m ≤ m' → m' < 4 → ln m' < 0) → Txt v f n k m a → ∃ ln' q', plnS f n (4 - j).toNat j a ln q = (0, n, ln', q') ∧ (∀ m', m ≤ m' → m' < 4 → (v 13 m' = 0 → ln' m' = ln m') ∧ (0 < v 13 m' → ln' m' = v 13 m' ∧ ∀ x, 0 ≤ x → x < v 13 m' → q' (4 * m' + x) = v 14 (4 * m' + x))) ∧ (∀ m', m' < m → ln' m' = ln m') ∧ ∀ y, y < 4 * m → q' y = q y := by
  intro k
  induction k with
  | zero => intro m a j ln q _ _ _ _ _ h; exact h.elim
  | succ k ih =>
    intro m a j ln q hk m0 j0 jm hl h
    rcases h with ⟨hz, h⟩ | ⟨hz, S, h⟩
    · obtain ⟨ln', q', a1, a2, a3, a4⟩ := ih (m + 1) a j ln q (by omega) (by omega) j0 (by omega) (fun m' x y => hl m' (by omega) y) h
      refine ⟨ln', q', a1, fun m' x y => ?_, fun m' x => a3 m' (by omega), fun y hy => a4 y (by omega)⟩
      by_cases z : m' = m
      · subst z
        exact ⟨fun _ => a3 m' (by omega), fun w => by omega⟩
      · exact a2 m' (by omega) y
    · have m1 : m < 4 := by omega
      have l := ln_w hw m0 m1
      obtain ⟨q1, b1, b2, b3⟩ := ord_rd (q := q) hw m0 m1 (hl m (Int.le_refl m) m1) S
      rw [show (4 - j).toNat = (4 - (j + 1)).toNat + 1 by omega, plnS_1, b1, cif_0 (fun z => z rfl)]
      rcases h with ⟨e, he⟩ | ⟨e, h⟩
      · rw [cif_0 (fun z => by
          have := z.1
          rw [e, nx_n] at this
          omega)]
        refine ⟨uq ln m (v 13 m), q1, by rw [e], fun m' x y => ?_, fun m' x => uq_ne _ (by omega), fun y hy => b3 y (Or.inl hy)⟩
        by_cases z : m' = m
        · subst z
          exact ⟨fun w => by omega, fun _ => ⟨uq_at _ _ _, b2⟩⟩
        · have := he m' (by omega) y
          exact ⟨fun _ => uq_ne _ z, fun w => by omega⟩
      · have k1 : 1 ≤ k := by
          cases k with
          | zero => exact h.elim
          | succ k => omega
        rw [cif_1 ⟨e, by omega⟩]
        obtain ⟨ln', q', a1, a2, a3, a4⟩ := ih (m + 1) (a + 2 + v 13 m + 1) (j + 1) (uq ln m (v 13 m)) q1 (by omega) (by omega) (by omega) (by omega) (fun m' x y => by
          rw [uq_ne _ (by omega)]
          exact hl m' (by omega) y) h
        refine ⟨ln', q', a1, fun m' x y => ?_, fun m' x => by rw [a3 m' (by omega), uq_ne _ (by omega)], fun y hy => by rw [a4 y (by omega), b3 y (Or.inl hy)]⟩
        by_cases z : m' = m
        · subst z
          exact ⟨fun w => by omega, fun _ => ⟨by rw [a3 m' (by omega), uq_at], fun x x0 x1 => by rw [a4 _ (by omega)]; exact b2 x x0 x1⟩⟩
        · have r := a2 m' (by omega) y
          exact ⟨fun w => by rw [r.1 w, uq_ne _ z], r.2⟩
/-- the written text is read as what it was written from -/
theorem rd_all {v : Vw} (hw : wWF v) {f : Int → Int} {n : Int} (h : Txt v f n 4 0 0) : plnF f n = -6 ∧ ∀ m, 0 ≤ m → m < 4 → (v 13 m = 0 → (pln0 f n).2.2.1 m = -1) ∧ (0 < v 13 m → (pln0 f n).2.2.1 m = v 13 m ∧ ∀ x, 0 ≤ x → x < v 13 m → (pln0 f n).2.2.2 (4 * m + x) = v 14 (4 * m + x)) := by
  obtain ⟨ln', q', a1, a2, -, -⟩ := pl_rd hw 4 0 0 0 (fun _ => -1) (fun _ => 0) (by omega) (Int.le_refl 0) (Int.le_refl 0) (Int.le_refl 0) (fun _ _ _ => by omega) h
  have e : pln0 f n = (0, n, ln', q') := a1
  refine ⟨?_, fun m m0 m1 => ?_⟩
  · unfold plnF
    rw [e, cif_0 (fun z => z.elim (fun z => z rfl) (fun z => z rfl))]
  · rw [e]
    exact a2 m m0 m1
/-! the characters -/
abbrev qz (x : Int64) : Prop := (lg_cmp x (Int64.ofNat 0)).toInt = 0
theorem sg_1 {x : Int64} (h : ¬ q64 (x &&& 255) ∧ (33 ≤ lo64 x ∧ lo64 x ≤ 126) ∧ q64 (sh64 x &&& 255) ∧ q64 (sh64 x)) : sgS 8 x 0 = 1 := by
  rw [sgS_1, cif_0 h.1, cif_1 h.2.1, sgS_1, cif_1 h.2.2.1, cif_0 (fun z => z.elim (fun z => by omega) (fun z => z h.2.2.2))]
  rfl
theorem sg_2 {x : Int64} (h : ¬ q64 (x &&& 255) ∧ (33 ≤ lo64 x ∧ lo64 x ≤ 126) ∧ ¬ q64 (sh64 x &&& 255) ∧ (33 ≤ lo64 (sh64 x) ∧ lo64 (sh64 x) ≤ 126) ∧ q64 (sh64 (sh64 x) &&& 255) ∧ q64 (sh64 (sh64 x))) : sgS 8 x 0 = 2 := by
  rw [sgS_1, cif_0 h.1, cif_1 h.2.1, sgS_1, cif_0 h.2.2.1, cif_1 h.2.2.2.1, sgS_1, cif_1 h.2.2.2.2.1, cif_0 (fun z => z.elim (fun z => by omega) (fun z => z h.2.2.2.2.2))]
  rfl
theorem pd_0 : ∀ d : Fin 4, (¬ qz ((Int32.ofInt (48 + (d.val : Int))).toInt64 &&& 255) ∧ (33 ≤ lo64 (Int32.ofInt (48 + (d.val : Int))).toInt64 ∧ lo64 (Int32.ofInt (48 + (d.val : Int))).toInt64 ≤ 126) ∧ qz (sh64 (Int32.ofInt (48 + (d.val : Int))).toInt64 &&& 255) ∧ qz (sh64 (Int32.ofInt (48 + (d.val : Int))).toInt64)) ∧ byV (Int32.ofInt (48 + (d.val : Int))).toInt64 0 = 48 + (d.val : Int) := by decide +kernel
theorem pd_1 {d : Int} (d0 : 0 ≤ d) (d1 : d < 4) : sgS 8 (Int32.ofInt (48 + d)).toInt64 0 = 1 ∧ byV (Int32.ofInt (48 + d)).toInt64 0 = 48 + d := by
  have := pd_0 ⟨d.toNat, by omega⟩
  simp only [Int.toNat_of_nonneg d0] at this
  exact ⟨sg_1 this.1, this.2⟩
theorem pm_0 : ∀ d : Fin 4, (¬ qz ((((Int32.ofInt (48 + (d.val : Int))).toInt64 <<< ((Int32.ofInt 8).toInt64 &&& 63)) ||| 58) &&& 255) ∧ (33 ≤ lo64 (((Int32.ofInt (48 + (d.val : Int))).toInt64 <<< ((Int32.ofInt 8).toInt64 &&& 63)) ||| 58) ∧ lo64 (((Int32.ofInt (48 + (d.val : Int))).toInt64 <<< ((Int32.ofInt 8).toInt64 &&& 63)) ||| 58) ≤ 126) ∧ ¬ qz (sh64 (((Int32.ofInt (48 + (d.val : Int))).toInt64 <<< ((Int32.ofInt 8).toInt64 &&& 63)) ||| 58) &&& 255) ∧ (33 ≤ lo64 (sh64 (((Int32.ofInt (48 + (d.val : Int))).toInt64 <<< ((Int32.ofInt 8).toInt64 &&& 63)) ||| 58)) ∧ lo64 (sh64 (((Int32.ofInt (48 + (d.val : Int))).toInt64 <<< ((Int32.ofInt 8).toInt64 &&& 63)) ||| 58)) ≤ 126) ∧ qz (sh64 (sh64 (((Int32.ofInt (48 + (d.val : Int))).toInt64 <<< ((Int32.ofInt 8).toInt64 &&& 63)) ||| 58)) &&& 255) ∧ qz (sh64 (sh64 (((Int32.ofInt (48 + (d.val : Int))).toInt64 <<< ((Int32.ofInt 8).toInt64 &&& 63)) ||| 58)))) ∧ byV (((Int32.ofInt (48 + (d.val : Int))).toInt64 <<< ((Int32.ofInt 8).toInt64 &&& 63)) ||| 58) 8 = 48 + (d.val : Int) ∧ byV (((Int32.ofInt (48 + (d.val : Int))).toInt64 <<< ((Int32.ofInt 8).toInt64 &&& 63)) ||| 58) 0 = 58 := by decide +kernel
theorem pm_1 {d : Int} (d0 : 0 ≤ d) (d1 : d < 4) : sgS 8 (((Int32.ofInt (48 + d)).toInt64 <<< ((Int32.ofInt 8).toInt64 &&& 63)) ||| 58) 0 = 2 ∧ byV (((Int32.ofInt (48 + d)).toInt64 <<< ((Int32.ofInt 8).toInt64 &&& 63)) ||| 58) 8 = 48 + d ∧ byV (((Int32.ofInt (48 + d)).toInt64 <<< ((Int32.ofInt 8).toInt64 &&& 63)) ||| 58) 0 = 58 := by
  have := pm_0 ⟨d.toNat, by omega⟩
  simp only [Int.toNat_of_nonneg d0] at this
  exact ⟨sg_2 this.1, this.2⟩
theorem ps_0 : (¬ qz ((59 : Int64) &&& 255) ∧ (33 ≤ lo64 59 ∧ lo64 59 ≤ 126) ∧ qz (sh64 59 &&& 255) ∧ qz (sh64 59)) ∧ byV 59 0 = 59 := by decide +kernel
theorem ps_1 : sgS 8 59 0 = 1 ∧ byV 59 0 = 59 := ⟨sg_1 ps_0.1, ps_0.2⟩
theorem pt_1 {x : Int64} {c n : Int} {f : Int → Int} (h : sgS 8 x 0 = 1 ∧ byV x 0 = c) : (∀ y, y < n → ptF f n x (sgS 8 x 0) y = f y) ∧ ptF f n x (sgS 8 x 0) n = c := by
  unfold ptF
  refine ⟨fun y hy => if_neg (by omega), ?_⟩
  rw [if_pos (Int.le_refl n), h.1, show 8 * (1 - 1 - (n - n)) = (0 : Int) by omega]
  exact h.2
theorem pt_2 {x : Int64} {c d n : Int} {f : Int → Int} (h : sgS 8 x 0 = 2 ∧ byV x 8 = c ∧ byV x 0 = d) : (∀ y, y < n → ptF f n x (sgS 8 x 0) y = f y) ∧ ptF f n x (sgS 8 x 0) n = c ∧ ptF f n x (sgS 8 x 0) (n + 1) = d := by
  unfold ptF
  refine ⟨fun y hy => if_neg (by omega), ?_, ?_⟩
  · rw [if_pos (Int.le_refl n), h.1, show 8 * (2 - 1 - (n - n)) = (8 : Int) by omega]
    exact h.2.1
  · rw [if_pos (by omega), h.1, show 8 * (2 - 1 - (n + 1 - n)) = (0 : Int) by omega]
    exact h.2.2
/-! the writing: what is written so far, and what may follow, is a text -/
def Tal (v : Vw) (f : Int → Int) (n m a : Int) : Prop := (a = 0 ∧ Txt v f n (4 - m).toNat m 0) ∨ (0 < a ∧ ((a = n ∧ ∀ m', m ≤ m' → m' < 4 → v 13 m' = 0) ∨ (a < n ∧ f a = 59 ∧ Txt v f n (4 - m).toNat m (a + 1))))
def Cnt (v : Vw) (m : Int) (f : Int → Int) (n : Int) : Prop := ∀ f' n', n ≤ n' → (∀ y, 0 ≤ y → y < n → f' y = f y) → Tal v f' n' m n → Txt v f' n' 4 0 0
/-- a machine's segment begins at b -/
def Csg (v : Vw) (m : Int) (f : Int → Int) (b : Int) : Prop := ∀ f' n', b < n' → (∀ y, 0 ≤ y → y < b → f' y = f y) → Txt v f' n' (4 - m).toNat m b → Txt v f' n' 4 0 0
theorem Cnt_0 (v : Vw) (f : Int → Int) : Cnt v 0 f 0 := fun f' n' _ _ h => by
  rcases h with ⟨-, h⟩ | ⟨h, -⟩
  · exact h
  · omega
theorem Cnt_n {v : Vw} {m n : Int} {f : Int → Int} (h : Cnt v m f n) (m0 : 0 ≤ m) (m1 : m < 4) (z : v 13 m = 0) : Cnt v (m + 1) f n := fun f' n' a b t => by
  refine h f' n' a b ?_
  have e : (4 - m).toNat = (4 - (m + 1)).toNat + 1 := by omega
  rcases t with ⟨t1, t2⟩ | ⟨t1, ⟨t2, t3⟩ | ⟨t2, t3, t4⟩⟩
  · exact Or.inl ⟨t1, by rw [e]; exact Or.inl ⟨z, t2⟩⟩
  · refine Or.inr ⟨t1, Or.inl ⟨t2, fun m' x y => ?_⟩⟩
    by_cases w : m' = m
    · rw [w]
      exact z
    · exact t3 m' (by omega) y
  · exact Or.inr ⟨t1, Or.inr ⟨t2, t3, by rw [e]; exact Or.inl ⟨z, t4⟩⟩⟩
theorem Csg_0 {v : Vw} {m : Int} {f : Int → Int} (h : Cnt v m f 0) : Csg v m f 0 := fun f' n' a b t => h f' n' (by omega) b (Or.inl ⟨rfl, t⟩)
theorem Csg_1 {v : Vw} {m n : Int} {f f1 : Int → Int} (h : Cnt v m f n) (n0 : 0 < n) (e : ∀ y, y < n → f1 y = f y) (e1 : f1 n = 59) : Csg v m f1 (n + 1) := fun f' n' a b t => h f' n' (by omega) (fun y y0 y1 => by rw [b y y0 (by omega), e y y1]) (Or.inr ⟨n0, Or.inr ⟨by omega, by rw [b n (by omega) (by omega), e1], t⟩⟩)
theorem Csg_cg {v : Vw} {m b : Int} {f f1 : Int → Int} (h : Csg v m f b) (e : ∀ y, 0 ≤ y → y < b → f1 y = f y) : Csg v m f1 b := fun f' n' a c t => h f' n' a (fun y y0 y1 => by rw [c y y0 y1, e y y0 y1]) t
theorem Cnt_s {v : Vw} {m b : Int} {f : Int → Int} (h : Csg v m f b) (b0 : 0 ≤ b) (m0 : 0 ≤ m) (m1 : m < 4) (l : 0 < v 13 m) (h1 : f b = 48 + m) (h2 : f (b + 1) = 58) (h3 : ∀ x, 0 ≤ x → x < v 13 m → f (b + 2 + x) = 48 + v 14 (4 * m + x)) : Cnt v (m + 1) f (b + 2 + v 13 m) := fun f' n' a c t => by
  have nxe : ∀ y, 0 ≤ y → y < b + 2 + v 13 m → nx f' n' y = f y := fun y y0 y1 => by
    unfold nx
    rw [if_pos (by omega), c y y0 y1]
  have e : (4 - m).toNat = (4 - (m + 1)).toNat + 1 := by omega
  refine h f' n' (by omega) (fun y y0 y1 => c y y0 (by omega)) ?_
  rw [e]
  have sg : dg f' n' (b + 2 + v 13 m) = -6 → Seg v f' n' m b := fun d => ⟨by rw [nxe b b0 (by omega), h1], by rw [nxe (b + 1) (by omega) (by omega), h2], fun x x0 x1 => by rw [nxe (b + 2 + x) (by omega) (by omega), h3 x x0 x1], d⟩
  rcases t with ⟨t1, -⟩ | ⟨t1, ⟨t2, t3⟩ | ⟨t2, t3, t4⟩⟩
  · omega
  · refine Or.inr ⟨l, sg ?_, Or.inl ⟨t2, fun m' x y => t3 m' (by omega) y⟩⟩
    unfold dg
    rw [t2, nx_n, if_neg (by omega)]
  · have e9 : nx f' n' (b + 2 + v 13 m) = 59 := by
      unfold nx
      rw [if_pos t2, t3]
    refine Or.inr ⟨l, sg ?_, Or.inr ⟨e9, t4⟩⟩
    unfold dg
    rw [e9, if_neg (by omega)]
theorem Cnt_e {v : Vw} {f : Int → Int} {n : Int} (h : Cnt v 4 f n) (n0 : 0 < n) : Txt v f n 4 0 0 := h f n (Int.le_refl n) (fun _ _ _ => rfl) (Or.inr ⟨n0, Or.inl ⟨rfl, fun m' x y => by omega⟩⟩)
