/-! the reference reads a job: what each reading does, by numbers -/
def ne (tx : Int → Int) (n w s c w' s' : Int) : Prop := (w = 0 ∧ nx tx n s = c ∧ s' = s + 1 ∧ w' = 0) ∨ (¬ (w = 0 ∧ nx tx n s = c) ∧ s' = s ∧ w' = 1)
def tn (tx : Int → Int) (n w s lo hi w' s' v : Int) : Prop := (w = 0 ∧ (numS tx n lo hi s).2.2 ≠ 1 ∧ s' = (numS tx n lo hi s).2.1 ∧ w' = 0 ∧ v = (numS tx n lo hi s).1) ∨ (¬ (w = 0 ∧ (numS tx n lo hi s).2.2 ≠ 1) ∧ s' = s ∧ w' = 1 ∧ v = 0)
def td (tx : Int → Int) (n w s t w' s' v : Int) : Prop := (w = 0 ∧ 0 ≤ dg tx n s ∧ dg tx n s < 4 ∧ ¬ hasB t (dg tx n s) ∧ s' = s + 1 ∧ w' = 0 ∧ v = dg tx n s) ∨ (¬ (w = 0 ∧ 0 ≤ dg tx n s ∧ dg tx n s < 4 ∧ ¬ hasB t (dg tx n s)) ∧ s' = s ∧ w' = 1 ∧ v = 0)
def nR (tx : Int → Int) (n a : Int) : Int × Int × Int := numS tx n 0 50 (a + 1)
def nD (tx : Int → Int) (n a : Int) : Int × Int × Int := numS tx n 0 200 ((nR tx n a).2.1 + 1)
def opN (tx : Int → Int) (n b : Int) : Int × Int × Int := numS tx n 1 20 (b + 2)
theorem jobS_eq (tx : Int → Int) (n a : Int) : jobS tx n a = cif (nx tx n a ≠ 114) (1, a, fun _ => 0) (cif ((nR tx n a).2.2 ≠ 0) (1, (nR tx n a).2.1, fun _ => 0) (cif (nx tx n (nR tx n a).2.1 ≠ 100) (1, (nR tx n a).2.1, fun _ => 0) (cif ((nD tx n a).2.2 ≠ 0) (1, (nD tx n a).2.1, fun _ => 0) (opsS tx n 5 0 (nD tx n a).2.1 (hdR (nR tx n a).1 (nD tx n a).1))))) := rfl
/-- wrong, and at the place -/
def bad3 (p : Int × Int × (Int → Int)) (s : Int) : Prop := p.1 ≠ 0 ∧ s = p.2.1
def bad4 (p : Int × Int × Int × Int) (s : Int) : Prop := p.1 ≠ 0 ∧ s = p.2.1
theorem bad3_i {p : Int × Int × (Int → Int)} {s x : Int} {R : Int → Int} (e : p = (1, x, R)) (h : s = x) : bad3 p s := by
  rw [e]
  exact ⟨by show (1 : Int) ≠ 0; omega, h⟩
theorem bad4_i {p : Int × Int × Int × Int} {s x : Int} {R : Int × Int} (e : p = (1, x, R)) (h : s = x) : bad4 p s := by
  rw [e]
  exact ⟨by show (1 : Int) ≠ 0; omega, h⟩
def S1 (tx : Int → Int) (n a w s : Int) : Prop := (w = 0 ∧ nx tx n a = 114 ∧ s = a + 1) ∨ (w = 1 ∧ bad3 (jobS tx n a) s)
def S2 (tx : Int → Int) (n a w s v : Int) : Prop := (w = 0 ∧ nx tx n a = 114 ∧ (nR tx n a).2.2 ≠ 1 ∧ s = (nR tx n a).2.1 ∧ v = (nR tx n a).1) ∨ (w = 1 ∧ bad3 (jobS tx n a) s)
def S3 (tx : Int → Int) (n a w s v : Int) : Prop := (w = 0 ∧ nx tx n a = 114 ∧ (nR tx n a).2.2 = 0 ∧ nx tx n (nR tx n a).2.1 = 100 ∧ s = (nR tx n a).2.1 + 1 ∧ v = (nR tx n a).1) ∨ (w = 1 ∧ bad3 (jobS tx n a) s)
def S4 (tx : Int → Int) (n a w s v v2 : Int) : Prop := (w = 0 ∧ nx tx n a = 114 ∧ (nR tx n a).2.2 = 0 ∧ nx tx n (nR tx n a).2.1 = 100 ∧ (nD tx n a).2.2 ≠ 1 ∧ s = (nD tx n a).2.1 ∧ v = (nR tx n a).1 ∧ v2 = (nD tx n a).1) ∨ (w = 1 ∧ bad3 (jobS tx n a) s)
theorem S1_i {tx : Int → Int} {n a w s : Int} (h : ne tx n 0 a 114 w s) : S1 tx n a w s := by
  rcases h with ⟨-, q, e, w⟩ | ⟨q, e, w⟩
  · exact Or.inl ⟨w, q, e⟩
  · exact Or.inr ⟨w, bad3_i (by rw [jobS_eq, cif_1 (fun z => q ⟨rfl, z⟩)]) e⟩
theorem S1_b {tx : Int → Int} {n a w s : Int} (h : S1 tx n a w s) (h0 : 0 ≤ a) (h1 : a ≤ n) : 0 ≤ s ∧ s ≤ n ∧ (w = 0 ∨ w = 1) := by
  have hj := jobS_r tx h1
  rcases h with ⟨w, q, e⟩ | ⟨w, q⟩
  · have := nx_lt q (by omega)
    omega
  · have := q.2
    omega
theorem S2_i {tx : Int → Int} {n a w s w' s' v : Int} (h : S1 tx n a w s) (t : tn tx n w s 0 50 w' s' v) : S2 tx n a w' s' v := by
  rcases h with ⟨w, q, e⟩ | ⟨w, q⟩
  · subst e
    rcases t with ⟨-, t1, t2, t3, t4⟩ | ⟨t1, t2, t3, -⟩
    · exact Or.inl ⟨t3, q, t1, t2, t4⟩
    · have z : (numS tx n 0 50 (a + 1)).2.2 = 1 := Classical.not_not.mp (fun z => t1 ⟨w, z⟩)
      have d := (numS_s1 (by omega)).mp z
      refine Or.inr ⟨t3, bad3_i (by rw [jobS_eq, cif_0 (fun y => y q), cif_1 (show (nR tx n a).2.2 ≠ 0 by unfold nR; omega)]) ?_⟩
      unfold nR
      rw [numS_bad d]
      exact t2
  · rcases t with ⟨t1, -⟩ | ⟨-, t2, t3, -⟩
    · omega
    · exact Or.inr ⟨t3, by rw [t2]; exact q⟩
theorem S2_b {tx : Int → Int} {n a w s v : Int} (h : S2 tx n a w s v) (h0 : 0 ≤ a) (h1 : a ≤ n) : 0 ≤ s ∧ s ≤ n ∧ (w = 0 ∨ w = 1) ∧ (w = 0 → 0 ≤ v ∧ v ≤ 50) := by
  have hj := jobS_r tx h1
  rcases h with ⟨w, q, q1, e, ev⟩ | ⟨w, q⟩
  · have := nx_lt q (by omega)
    have := numS_r tx (lo := 0) (hi := 50) (a := a + 1) (n := n) (by omega) (by omega) (by omega)
    unfold nR at e ev
    omega
  · have := q.2
    omega
theorem S3_i {tx : Int → Int} {n a w s w' s' v : Int} (h : S2 tx n a w s v) (t : ne tx n w s 100 w' s') : S3 tx n a w' s' v := by
  rcases h with ⟨w, q, q1, e, ev⟩ | ⟨w, q⟩
  · subst e
    rcases t with ⟨-, t1, t2, t3⟩ | ⟨t1, t2, t3⟩
    · have z : (nR tx n a).2.2 = 0 := by
        refine Classical.byContradiction (fun z => ?_)
        have hs : (nR tx n a).2.2 = 2 := by
          have hl := nx_lt q (by omega)
          have := numS_r tx (lo := 0) (hi := 50) (a := a + 1) (n := n) (by omega) (by omega) (by omega)
          unfold nR at z q1 ⊢
          omega
        have := dg_nx (numS_2 (lo := 0) (hi := 50) (tx := tx) (n := n) (a := a + 1) hs)
        have t1' : nx tx n (numS tx n 0 50 (a + 1)).2.1 = 100 := t1
        omega
      exact Or.inl ⟨t3, q, z, t1, t2, ev⟩
    · refine Or.inr ⟨t3, ?_⟩
      by_cases z : (nR tx n a).2.2 = 0
      · exact bad3_i (by rw [jobS_eq, cif_0 (fun y => y q), cif_0 (fun y => y z), cif_1 (fun y => t1 ⟨w, y⟩)]) t2
      · exact bad3_i (by rw [jobS_eq, cif_0 (fun y => y q), cif_1 z]) t2
  · rcases t with ⟨t1, -⟩ | ⟨-, t2, t3⟩
    · omega
    · exact Or.inr ⟨t3, by rw [t2]; exact q⟩
theorem S3_b {tx : Int → Int} {n a w s v : Int} (h : S3 tx n a w s v) (h0 : 0 ≤ a) (h1 : a ≤ n) : 0 ≤ s ∧ s ≤ n ∧ (w = 0 ∨ w = 1) := by
  have hj := jobS_r tx h1
  rcases h with ⟨w, q, q1, q2, e, ev⟩ | ⟨w, q⟩
  · have := nx_lt q (by omega)
    have := nx_lt q2 (by omega)
    have := numS_r tx (lo := 0) (hi := 50) (a := a + 1) (n := n) (by omega) (by omega) (by omega)
    unfold nR at *
    omega
  · have := q.2
    omega
theorem S4_i {tx : Int → Int} {n a w s w' s' v v2 : Int} (h : S3 tx n a w s v) (t : tn tx n w s 0 200 w' s' v2) : S4 tx n a w' s' v v2 := by
  rcases h with ⟨w, q, q1, q2, e, ev⟩ | ⟨w, q⟩
  · subst e
    rcases t with ⟨-, t1, t2, t3, t4⟩ | ⟨t1, t2, t3, -⟩
    · exact Or.inl ⟨t3, q, q1, q2, t1, t2, ev, t4⟩
    · have z : (numS tx n 0 200 ((nR tx n a).2.1 + 1)).2.2 = 1 := Classical.not_not.mp (fun z => t1 ⟨w, z⟩)
      have d := (numS_s1 (by omega)).mp z
      refine Or.inr ⟨t3, bad3_i (by rw [jobS_eq, cif_0 (fun y => y q), cif_0 (fun y => y q1), cif_0 (fun y => y q2), cif_1 (show (nD tx n a).2.2 ≠ 0 by unfold nD; omega)]) ?_⟩
      unfold nD
      rw [numS_bad d]
      exact t2
  · rcases t with ⟨t1, -⟩ | ⟨-, t2, t3, -⟩
    · omega
    · exact Or.inr ⟨t3, by rw [t2]; exact q⟩
theorem S4_b {tx : Int → Int} {n a w s v v2 : Int} (h : S4 tx n a w s v v2) (h0 : 0 ≤ a) (h1 : a ≤ n) : 0 ≤ s ∧ s ≤ n ∧ (w = 0 ∨ w = 1) := by
  have hj := jobS_r tx h1
  rcases h with ⟨w, q, q1, q2, q3, e, ev, ev2⟩ | ⟨w, q⟩
  · have := nx_lt q (by omega)
    have := nx_lt q2 (by omega)
    have := numS_r tx (lo := 0) (hi := 50) (a := a + 1) (n := n) (by omega) (by omega) (by omega)
    have := numS_r tx (lo := 0) (hi := 200) (a := (nR tx n a).2.1 + 1) (n := n) (by omega) (by omega) (by omega)
    unfold nD at *
    unfold nR at *
    omega
  · have := q.2
    omega
/-- behind the head of a job -/
theorem S4_e {tx : Int → Int} {n a w s v v2 : Int} (h : S4 tx n a w s v v2) (h1 : a ≤ n) : (w = 0 ∧ jobS tx n a = opsS tx n 5 0 s (hdR v v2)) ∨ ((w = 1 ∨ (w = 0 ∧ 0 ≤ dg tx n s)) ∧ bad3 (jobS tx n a) s) := by
  rcases h with ⟨w, q, q1, q2, q3, e, ev, ev2⟩ | ⟨w, q⟩
  · by_cases z : (nD tx n a).2.2 = 0
    · refine Or.inl ⟨w, ?_⟩
      rw [jobS_eq, cif_0 (fun y => y q), cif_0 (fun y => y q1), cif_0 (fun y => y q2), cif_0 (fun y => y z), e, ev, ev2]
    · have hs : (nD tx n a).2.2 = 2 := by
        have := nx_lt q (by omega)
        have := nx_lt q2 (by omega)
        have := numS_r tx (lo := 0) (hi := 50) (a := a + 1) (n := n) (by omega) (by omega) (by omega)
        have := numS_r tx (lo := 0) (hi := 200) (a := (nR tx n a).2.1 + 1) (n := n) (by omega) (by omega) (by omega)
        unfold nD at *
        omega
      have := numS_2 (lo := 0) (hi := 200) (tx := tx) (n := n) (a := (nR tx n a).2.1 + 1) hs
      refine Or.inr ⟨Or.inr ⟨w, by rw [e]; exact this⟩, bad3_i (by rw [jobS_eq, cif_0 (fun y => y q), cif_0 (fun y => y q1), cif_0 (fun y => y q2), cif_1 z]) e⟩
  · exact Or.inr ⟨Or.inl w, q⟩
theorem op1_eq (tx : Int → Int) (n : Int) (R : Int → Int) (c b : Int) : op1 tx n R c b = cif (dg tx n b < 0 ∨ 4 ≤ dg tx n b ∨ dup R c (dg tx n b)) (1, b, 0, 0) (cif (nx tx n (b + 1) ≠ 42) (1, b + 1, 0, 0) (cif ((opN tx n b).2.2 ≠ 0) (1, (opN tx n b).2.1, 0, 0) (0, (opN tx n b).2.1, dg tx n b, (opN tx n b).1))) := rfl
def okD (tx : Int → Int) (n : Int) (R : Int → Int) (c b : Int) : Prop := 0 ≤ dg tx n b ∧ dg tx n b < 4 ∧ ¬ dup R c (dg tx n b)
theorem okD_n {tx : Int → Int} {n : Int} {R : Int → Int} {c b : Int} : okD tx n R c b ↔ ¬ (dg tx n b < 0 ∨ 4 ≤ dg tx n b ∨ dup R c (dg tx n b)) := by
  unfold okD
  constructor
  · rintro ⟨a, b, c⟩ (z | z | z)
    · omega
    · omega
    · exact c z
  · intro h
    exact ⟨by rcases Int.lt_or_le (dg tx n b) 0 with z | z; exact absurd (Or.inl z) h; exact z, by rcases Int.lt_or_le (dg tx n b) 4 with z | z; exact z; exact absurd (Or.inr (Or.inl z)) h, fun z => h (Or.inr (Or.inr z))⟩
def O1 (tx : Int → Int) (n : Int) (R : Int → Int) (c b w s d : Int) : Prop := (w = 0 ∧ okD tx n R c b ∧ s = b + 1 ∧ d = dg tx n b) ∨ (w = 1 ∧ bad4 (op1 tx n R c b) s ∧ d = 0)
def O2 (tx : Int → Int) (n : Int) (R : Int → Int) (c b w s d : Int) : Prop := (w = 0 ∧ okD tx n R c b ∧ nx tx n (b + 1) = 42 ∧ s = b + 2 ∧ d = dg tx n b) ∨ (w = 1 ∧ bad4 (op1 tx n R c b) s)
def O3 (tx : Int → Int) (n : Int) (R : Int → Int) (c b w s d v : Int) : Prop := (w = 0 ∧ okD tx n R c b ∧ nx tx n (b + 1) = 42 ∧ (opN tx n b).2.2 ≠ 1 ∧ s = (opN tx n b).2.1 ∧ d = dg tx n b ∧ v = (opN tx n b).1) ∨ (w = 1 ∧ bad4 (op1 tx n R c b) s)
theorem O1_i {tx : Int → Int} {n : Int} {R : Int → Int} {c b t w s d : Int} (ht : ∀ x, 0 ≤ x → x < 4 → (hasB t x ↔ dup R c x)) (h : td tx n 0 b t w s d) : O1 tx n R c b w s d := by
  rcases h with ⟨-, h1, h2, h3, h4, h5, h6⟩ | ⟨h1, h2, h3, h4⟩
  · exact Or.inl ⟨h5, ⟨h1, h2, fun z => h3 ((ht _ h1 h2).mpr z)⟩, h4, h6⟩
  · have hb : dg tx n b < 0 ∨ 4 ≤ dg tx n b ∨ dup R c (dg tx n b) := Classical.byContradiction (fun z => by
      obtain ⟨a1, a2, a3⟩ := okD_n.mpr z
      exact h1 ⟨rfl, a1, a2, fun y => a3 ((ht _ a1 a2).mp y)⟩)
    exact Or.inr ⟨h3, bad4_i (by rw [op1_eq, cif_1 hb]) h2, h4⟩
theorem O1_b {tx : Int → Int} {n : Int} {R : Int → Int} {c b w s d : Int} (h : O1 tx n R c b w s d) (h0 : 0 ≤ b) (h1 : b ≤ n) : 0 ≤ s ∧ s ≤ n ∧ (w = 0 ∨ w = 1) ∧ 0 ≤ d ∧ d < 4 := by
  have hj := op1_r tx (R := R) (c := c) h1
  rcases h with ⟨w, q, e, ed⟩ | ⟨w, q, ed⟩
  · have := dg_lt q.1
    have := q.1
    have := q.2.1
    omega
  · have := q.2
    omega
theorem O2_i {tx : Int → Int} {n : Int} {R : Int → Int} {c b w s d w' s' : Int} (h : O1 tx n R c b w s d) (t : ne tx n w s 42 w' s') : O2 tx n R c b w' s' d := by
  rcases h with ⟨w, q, e, ed⟩ | ⟨w, q, -⟩
  · subst e
    rcases t with ⟨-, t1, t2, t3⟩ | ⟨t1, t2, t3⟩
    · exact Or.inl ⟨t3, q, t1, by omega, ed⟩
    · exact Or.inr ⟨t3, bad4_i (by rw [op1_eq, cif_0 (okD_n.mp q), cif_1 (fun y => t1 ⟨w, y⟩)]) t2⟩
  · rcases t with ⟨t1, -⟩ | ⟨-, t2, t3⟩
    · omega
    · exact Or.inr ⟨t3, by rw [t2]; exact q⟩
theorem O2_b {tx : Int → Int} {n : Int} {R : Int → Int} {c b w s d : Int} (h : O2 tx n R c b w s d) (h0 : 0 ≤ b) (h1 : b ≤ n) : 0 ≤ s ∧ s ≤ n ∧ (w = 0 ∨ w = 1) := by
  have hj := op1_r tx (R := R) (c := c) h1
  rcases h with ⟨w, q, q2, e, ed⟩ | ⟨w, q⟩
  · have := nx_lt q2 (by omega)
    omega
  · have := q.2
    omega
theorem O3_i {tx : Int → Int} {n : Int} {R : Int → Int} {c b w s d w' s' v : Int} (h : O2 tx n R c b w s d) (t : tn tx n w s 1 20 w' s' v) : O3 tx n R c b w' s' d v := by
  rcases h with ⟨w, q, q2, e, ed⟩ | ⟨w, q⟩
  · subst e
    rcases t with ⟨-, t1, t2, t3, t4⟩ | ⟨t1, t2, t3, -⟩
    · exact Or.inl ⟨t3, q, q2, t1, t2, ed, t4⟩
    · have z : (numS tx n 1 20 (b + 2)).2.2 = 1 := Classical.not_not.mp (fun z => t1 ⟨w, z⟩)
      have d := (numS_s1 (by omega)).mp z
      refine Or.inr ⟨t3, bad4_i (by rw [op1_eq, cif_0 (okD_n.mp q), cif_0 (fun y => y q2), cif_1 (show (opN tx n b).2.2 ≠ 0 by unfold opN; omega)]) ?_⟩
      unfold opN
      rw [numS_bad d]
      exact t2
  · rcases t with ⟨t1, -⟩ | ⟨-, t2, t3, -⟩
    · omega
    · exact Or.inr ⟨t3, by rw [t2]; exact q⟩
theorem O3_b {tx : Int → Int} {n : Int} {R : Int → Int} {c b w s d v : Int} (h : O3 tx n R c b w s d v) (h0 : 0 ≤ b) (h1 : b ≤ n) : 0 ≤ s ∧ s ≤ n ∧ (w = 0 ∨ w = 1) := by
  have hj := op1_r tx (R := R) (c := c) h1
  rcases h with ⟨w, q, q2, q3, e, ed, ev⟩ | ⟨w, q⟩
  · have := nx_lt q2 (by omega)
    have := numS_r tx (lo := 1) (hi := 20) (a := b + 2) (n := n) (by omega) (by omega) (by omega)
    unfold opN at *
    omega
  · have := q.2
    omega
theorem O3_e {tx : Int → Int} {n : Int} {R : Int → Int} {c b w s d v : Int} (h : O3 tx n R c b w s d v) (h1 : b ≤ n) : (w = 0 ∧ okD tx n R c b ∧ op1 tx n R c b = (0, s, d, v) ∧ d = dg tx n b) ∨ ((w = 1 ∨ (w = 0 ∧ 0 ≤ dg tx n s)) ∧ bad4 (op1 tx n R c b) s) := by
  rcases h with ⟨w, q, q2, q3, e, ed, ev⟩ | ⟨w, q⟩
  · by_cases z : (opN tx n b).2.2 = 0
    · refine Or.inl ⟨w, q, ?_, ed⟩
      rw [op1_eq, cif_0 (okD_n.mp q), cif_0 (fun y => y q2), cif_0 (fun y => y z), e, ed, ev]
    · have hs : (opN tx n b).2.2 = 2 := by
        have := nx_lt q2 (by omega)
        have := numS_r tx (lo := 1) (hi := 20) (a := b + 2) (n := n) (by omega) (by omega) (by omega)
        unfold opN at *
        omega
      have := numS_2 (lo := 1) (hi := 20) (tx := tx) (n := n) (a := b + 2) hs
      refine Or.inr ⟨Or.inr ⟨w, by rw [e]; exact this⟩, bad4_i (by rw [op1_eq, cif_0 (okD_n.mp q), cif_0 (fun y => y q2), cif_1 z]) e⟩
  · exact Or.inr ⟨Or.inl w, q⟩
