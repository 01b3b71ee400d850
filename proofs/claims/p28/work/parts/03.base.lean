/-! numbers -/
def inR (x : Int) : Prop := -2147483648 ≤ x ∧ x ≤ 2147483647
theorem oI {x : Int} (h : inR x) : (Int32.ofInt x).toInt = x := by
  obtain ⟨h1, h2⟩ := h
  rw [Int32.toInt_ofInt]
  rw [show Int32.size = 4294967296 from rfl, Int.bmod_def]
  omega
theorem oT (x : Int32) : Int32.ofInt x.toInt = x := Int32.ofInt_toInt x
theorem inR_t (x : Int32) : inR x.toInt := by
  have h1 := Int32.le_toInt x
  have h2 := Int32.toInt_lt x
  constructor <;> omega
theorem oAdd (a b : Int) : Int32.ofInt a + Int32.ofInt b = Int32.ofInt (a + b) := (Int32.ofInt_add a b).symm
theorem oSub (a b : Int) : Int32.ofInt a - Int32.ofInt b = Int32.ofInt (a - b) := (Int32.ofInt_sub a b).symm
theorem oMul (a b : Int) : Int32.ofInt a * Int32.ofInt b = Int32.ofInt (a * b) := (Int32.ofInt_mul a b).symm
theorem oNat (n : Nat) : Int32.ofInt (n : Int) = nI n := rfl
theorem oNonneg {x : Int} (h : 0 ≤ x) (h2 : x ≤ 2147483647) : ∃ n : Nat, n < 2 ^ 31 ∧ x = (n : Int) := ⟨x.toNat, by omega, by omega⟩
theorem oClamp {x : Int} (h : 0 ≤ x) (h2 : x ≤ 2147483647) : (Int32.ofInt x).toNatClampNeg = x.toNat := by
  obtain ⟨n, hn, rfl⟩ := oNonneg h h2
  rw [oNat, nI_clamp hn]
  omega
theorem oLt {a b : Int} (ha : inR a) (hb : inR b) : Int32.ofInt a < Int32.ofInt b ↔ a < b := by
  rw [Int32.lt_iff_toInt_lt, oI ha, oI hb]
theorem oLe {a b : Int} (ha : inR a) (hb : inR b) : Int32.ofInt a ≤ Int32.ofInt b ↔ a ≤ b := by
  rw [Int32.le_iff_toInt_le, oI ha, oI hb]
theorem oEq {a b : Int} (ha : inR a) (hb : inR b) : Int32.ofInt a = Int32.ofInt b ↔ a = b := by
  constructor
  · intro h
    have := congrArg Int32.toInt h
    rwa [oI ha, oI hb] at this
  · intro h; rw [h]
theorem oZero : Int32.ofInt 0 = 0 := rfl
theorem inR0 : inR 0 := by constructor <;> omega
theorem oDiv {a b : Int} (ha : 0 ≤ a) (hb : 0 < b) (ra : inR a) (rb : inR b) : Int32.ofInt a / Int32.ofInt b = Int32.ofInt (a / b) := by
  obtain ⟨n, hn, rfl⟩ := oNonneg ha ra.2
  obtain ⟨k, hk, rfl⟩ := oNonneg (by omega : 0 ≤ b) rb.2
  rw [oNat, oNat, pk_div hn (by omega) hk, ← oNat]
  rfl
theorem oRem {a b : Int} (ha : 0 ≤ a) (hb : 0 < b) (ra : inR a) (rb : inR b) : Int32.ofInt a - Int32.ofInt a / Int32.ofInt b * Int32.ofInt b = Int32.ofInt (a % b) := by
  obtain ⟨n, hn, rfl⟩ := oNonneg ha ra.2
  obtain ⟨k, hk, rfl⟩ := oNonneg (by omega : 0 ≤ b) rb.2
  rw [oNat, oNat, pk_rem hn (by omega) hk, ← oNat]
  rfl
theorem vp_inO {x : Int} {n : Nat} (h : 0 ≤ x) (h2 : x < n) (hn : n < 2 ^ 31) : vp_in (Int32.ofInt x) n := by
  obtain ⟨k, hk, rfl⟩ := oNonneg h (by omega)
  exact vp_in_nI (by omega) hn
/-! bit operations on numbers, by the machine's own -/
-- (all of them one chosen function, so that no check of a step looks into them or compares them)
theorem bop_ex : ∃ f : Nat → Int → Int → Int, (∀ a b, f 0 a b = (Int32.ofInt a &&& Int32.ofInt b).toInt) ∧ (∀ a b, f 1 a b = (Int32.ofInt a ||| Int32.ofInt b).toInt) ∧ (∀ a b, f 2 a b = (Int32.ofInt a ^^^ Int32.ofInt b).toInt) ∧ (∀ a b, f 3 a b = (Int32.ofInt a <<< (Int32.ofInt b &&& 31)).toInt) ∧ (∀ a b, f 4 a b = (Int32.ofInt a >>> (Int32.ofInt b &&& 31)).toInt) ∧ (∀ a b, f 5 a b = ((Int32.ofInt a).toUInt32 % 65536).toInt32.toInt) :=
  ⟨fun n a b => match n with | 0 => (Int32.ofInt a &&& Int32.ofInt b).toInt | 1 => (Int32.ofInt a ||| Int32.ofInt b).toInt | 2 => (Int32.ofInt a ^^^ Int32.ofInt b).toInt | 3 => (Int32.ofInt a <<< (Int32.ofInt b &&& 31)).toInt | 4 => (Int32.ofInt a >>> (Int32.ofInt b &&& 31)).toInt | _ => ((Int32.ofInt a).toUInt32 % 65536).toInt32.toInt, fun _ _ => rfl, fun _ _ => rfl, fun _ _ => rfl, fun _ _ => rfl, fun _ _ => rfl, fun _ _ => rfl⟩
noncomputable def bop : Nat → Int → Int → Int := Classical.choose bop_ex
noncomputable def band (a b : Int) : Int := bop 0 a b
theorem band_eq (a b : Int) : band a b = (Int32.ofInt a &&& Int32.ofInt b).toInt := (Classical.choose_spec bop_ex).1 a b
noncomputable def bor (a b : Int) : Int := bop 1 a b
theorem bor_eq (a b : Int) : bor a b = (Int32.ofInt a ||| Int32.ofInt b).toInt := (Classical.choose_spec bop_ex).2.1 a b
noncomputable def bxor (a b : Int) : Int := bop 2 a b
theorem bxor_eq (a b : Int) : bxor a b = (Int32.ofInt a ^^^ Int32.ofInt b).toInt := (Classical.choose_spec bop_ex).2.2.1 a b
noncomputable def bshl (a b : Int) : Int := bop 3 a b
theorem bshl_eq (a b : Int) : bshl a b = (Int32.ofInt a <<< (Int32.ofInt b &&& 31)).toInt := (Classical.choose_spec bop_ex).2.2.2.1 a b
noncomputable def bshr (a b : Int) : Int := bop 4 a b
theorem bshr_eq (a b : Int) : bshr a b = (Int32.ofInt a >>> (Int32.ofInt b &&& 31)).toInt := (Classical.choose_spec bop_ex).2.2.2.2.1 a b
noncomputable def bchr (a : Int) : Int := bop 5 a 0
theorem bchr_eq (a : Int) : bchr a = ((Int32.ofInt a).toUInt32 % 65536).toInt32.toInt := (Classical.choose_spec bop_ex).2.2.2.2.2 a 0
/-! values and memory -/
abbrev AV : Type := Int ⊕ ((Nat × Nat) ⊕ Int64)
abbrev LL : Type := List (Option AV)
abbrev Mem : Type := Nat → Nat → Int → Int
abbrev Tr : Type := List AV → Mem → (Option Int → Mem → Prop) → Prop
def vV (ad : Nat → Nat → Nat) : AV → Value
  | .inl x => .int (Int32.ofInt x)
  | .inr (.inl c) => .ref (ad c.1 c.2)
  | .inr (.inr x) => .long x
def up (σ : Mem) (t i : Nat) (j v : Int) : Mem := fun t' i' j' => if t' = t ∧ i' = i ∧ j' = j then v else σ t' i' j'
/-! the layout: kinds of cells, how many of each, what they are made of -/
def cntL : List Nat := [1,4,1,1,2,10,1,0, 10,10,10,10,10,10,10, 4,4,4,4,4,4,4,4,4,4,4,4, 2,2,2,2,2, 50, 1,1,1,1,1]
def cnt (xx : Bool) (t : Nat) : Nat := if t = 57 then (if xx then 1 else 0) else cntL.getD t 0
def akL : List (Nat × Nat) := [(0,4),(0,4),(0,4),(0,16),(0,16),(0,4),(0,16), (0,4),(0,16),(0,16),(0,16),(0,16),(0,16),(0,16),(0,16),(0,16),(0,4),(0,4),(0,4), (0,16),(0,16),(0,16),(0,16),(4,25), (0,16), (3,6),(3,2),(2,2),(1,80),(0,16), (0,65),(0,390),(0,130),(2,2),(0,80),(0,16),(2,16),(0,16),(0,16),(0,16),(0,384),(0,4),(0,4),(0,16),(0,16),(0,16),(0,16),(0,60)]
def ak (t : Nat) : Option (Nat × Nat) := if t < 8 then none else if t = 57 then some (0, 16) else akL[t - 8]?
def fN (t : Nat) : Nat := [3,15,4,2,8,8,16,25].getD t 0
def fpL : List (List (Option (Nat × Nat))) := [
  [some (33,0), none, none],
  [some (15,0), some (16,0), some (17,0), some (18,0), some (19,0), some (20,0), some (21,0), some (22,0), none, none, some (23,0), none, some (24,0), some (25,0), some (26,0)],
  [some (36,0), none, none, none],
  [some (37,0), none],
  [some (1,2), none, none, some (27,0), some (28,0), some (29,0), some (30,0), some (31,0)],
  [none, some (8,0), some (9,0), some (10,0), some (11,0), some (12,0), some (13,0), some (14,0)],
  [some (5,0), some (5,1), some (0,0), some (34,0), some (35,0), some (2,0), some (1,0), some (3,0), none, none, some (1,1), some (4,0), some (4,1), none, none, none],
  [some (38,0), some (39,0), none, some (40,0), some (41,0), some (42,0), none, some (43,0), some (44,0), some (45,0), some (46,0), some (47,0), none, some (48,0), some (49,0), some (50,0), some (51,0), some (52,0), some (53,0), some (54,0), none, none, some (55,0), none, none]]
def fp (t j : Nat) : Option (Nat × Nat) := ((fpL.getD t []).getD j none)
def el (t i j : Nat) : Nat × Nat := if t = 31 then (32, 25 * i + j) else if t = 33 then (5, 2 + j) else (5, 8 + j)
def isZ (t j : Nat) : Bool := (t == 4 && j == 1) || (t == 6 && (j == 8 || j == 9)) || (t == 7 && j == 21)
abbrev classes : List vw_C := [(RX0, TX0, 3), (RX1, TX1, 15), (RX2, TX2, 4), (RX3, TX3, 2), (RX4, TX4, 8), (RX5, TX5, 8), (RX6, TX6, 16)]
abbrev tysL (cy : Nat → ClassId) : List (ClassId × FieldType) := [(cy 0, .int), (cy 1, .char), (cy 2, .boolean), (cy 3, .object "BottleneckShop$State"), (cy 4, .array .int)]
def enc (cy : Nat → ClassId) (ad : Nat → Nat → Nat) (σ : Mem) (t i : Nat) : va_E :=
  match ak t with
  | none => .inr (t, (List.range (fN t)).map (fun j => match fp t j with | none => .int (Int32.ofInt (σ t i (j : Int))) | some q => .ref (ad q.1 (i + q.2))))
  | some (e, n) => if e < 3 then .inl (cy e, n, .inl (fun j => Int32.ofInt (σ t i (j : Int)))) else .inl (cy e, n, .inr (.inr (.inr (.inr (fun j => some (ad (el t i j).1 (el t i j).2))))))
def cs (xx : Bool) : List (Nat × Nat) := (List.range 58).flatMap (fun t => (List.range (cnt xx t)).map (fun i => (t, i)))
def pool (xx : Bool) (cy : Nat → ClassId) (ad : Nat → Nat → Nat) (σ : Mem) : va_W := (cs xx).map (fun c => (ad c.1 c.2, enc cy ad σ c.1 c.2))
theorem cs_nodup : ∀ xx : Bool, (cs xx).Nodup := by decide +kernel
theorem cnt_0 {xx : Bool} {t : Nat} (h : 38 ≤ t) (h2 : t ≠ 57) : cnt xx t = 0 := by
  unfold cnt
  rw [if_neg h2, List.getD_eq_getElem?_getD, List.getElem?_eq_none (by exact h)]
  rfl
theorem cnt_lt {xx : Bool} {t i : Nat} (h : i < cnt xx t) : t < 58 := by
  rcases Nat.lt_or_ge t 58 with q | q
  · exact q
  · rw [cnt_0 (by omega) (by omega)] at h
    omega
theorem cnt_56 {xx : Bool} {i : Nat} (h : i < cnt xx 56) : False := by
  rw [cnt_0 (by omega) (by omega)] at h
  omega
theorem cs_mem {xx : Bool} {t i : Nat} (h : i < cnt xx t) : (t, i) ∈ cs xx := by
  unfold cs
  exact List.mem_flatMap.mpr ⟨t, List.mem_range.mpr (cnt_lt h), List.mem_map.mpr ⟨i, List.mem_range.mpr h, rfl⟩⟩
theorem cs_cnt {xx : Bool} {c : Nat × Nat} (h : c ∈ cs xx) : c.2 < cnt xx c.1 := by
  unfold cs at h
  obtain ⟨t, -, h2⟩ := List.mem_flatMap.mp h
  obtain ⟨i, h3, rfl⟩ := List.mem_map.mp h2
  exact List.mem_range.mp h3
theorem pool_at {xx : Bool} (cy : Nat → ClassId) (ad : Nat → Nat → Nat) (σ : Mem) {t i : Nat} (h : i < cnt xx t) : ∃ q : Nat, (cs xx)[q]? = some (t, i) ∧ (pool xx cy ad σ)[q]? = some (ad t i, enc cy ad σ t i) := by
  obtain ⟨q, hq⟩ := List.getElem?_of_mem (cs_mem h)
  exact ⟨q, hq, by unfold pool; rw [List.getElem?_map, hq]; rfl⟩
theorem pool_set {xx : Bool} {cy : Nat → ClassId} {ad : Nat → Nat → Nat} {σ σ' : Mem} {t i q : Nat} {e : va_E} (hq : (cs xx)[q]? = some (t, i)) (he : enc cy ad σ' t i = e) (ho : ∀ t' i', (t', i') ≠ (t, i) → enc cy ad σ' t' i' = enc cy ad σ t' i') : (pool xx cy ad σ).set q (ad t i, e) = pool xx cy ad σ' := by
  have hl := (List.getElem?_eq_some_iff.mp hq).1
  apply List.ext_getElem?
  intro k
  by_cases hk : k = q
  · subst hk
    rw [List.getElem?_set_self (by unfold pool; rw [List.length_map]; exact hl)]
    unfold pool
    rw [List.getElem?_map, hq, ← he]
    rfl
  · rw [List.getElem?_set_ne (Ne.symm hk)]
    unfold pool
    rw [List.getElem?_map, List.getElem?_map]
    cases h : (cs xx)[k]? with
    | none => rfl
    | some c =>
      have hc : c ≠ (t, i) := by
        intro hc
        subst hc
        exact hk ((List.getElem?_inj (List.getElem?_eq_some_iff.mp h).1 (cs_nodup xx)).mp (h.trans hq.symm))
      show some (ad c.1 c.2, enc cy ad σ c.1 c.2) = some (ad c.1 c.2, enc cy ad σ' c.1 c.2)
      rw [ho c.1 c.2 hc]
theorem up_other {cy : Nat → ClassId} {ad : Nat → Nat → Nat} {σ : Mem} {t i : Nat} {j v : Int} : ∀ t' i', (t', i') ≠ (t, i) → enc cy ad (up σ t i j v) t' i' = enc cy ad σ t' i' := by
  intro t' i' h
  have h2 : up σ t i j v t' i' = σ t' i' := by
    funext j'
    unfold up
    rw [if_neg]
    rintro ⟨rfl, rfl, -⟩
    exact h rfl
  unfold enc
  rw [h2]
theorem up_arr {cy : Nat → ClassId} {ad : Nat → Nat → Nat} {σ : Mem} {t i e n : Nat} {x v : Int} (hk : ak t = some (e, n)) (he : e < 3) (hx : 0 ≤ x) : enc cy ad (up σ t i x v) t i = .inl (cy e, n, .inl (upd (fun j => Int32.ofInt (σ t i (j : Int))) x.toNat (Int32.ofInt v))) := by
  unfold enc
  rw [hk]
  simp only [he, if_true]
  congr 4
  funext k
  unfold up upd
  by_cases h : k = x.toNat
  · subst h
    simp [Int.toNat_of_nonneg hx]
  · have : ¬ (k : Int) = x := by omega
    simp [h, this]
theorem enc_arr {cy : Nat → ClassId} {ad : Nat → Nat → Nat} {σ : Mem} {t i e n : Nat} (hk : ak t = some (e, n)) (he : e < 3) : enc cy ad σ t i = .inl (cy e, n, .inl (fun j => Int32.ofInt (σ t i (j : Int)))) := by
  unfold enc
  rw [hk]
  simp only [he, if_true]
theorem enc_ref {cy : Nat → ClassId} {ad : Nat → Nat → Nat} {σ : Mem} {t i e n : Nat} (hk : ak t = some (e, n)) (he : ¬ e < 3) : enc cy ad σ t i = .inl (cy e, n, .inr (.inr (.inr (.inr (fun j => some (ad (el t i j).1 (el t i j).2)))))) := by
  unfold enc
  rw [hk]
  simp only [he, if_false]
def fV (ad : Nat → Nat → Nat) (σ : Mem) (t i j : Nat) : Value := match fp t j with | none => .int (Int32.ofInt (σ t i (j : Int))) | some q => .ref (ad q.1 (i + q.2))
theorem enc_obj {cy : Nat → ClassId} {ad : Nat → Nat → Nat} {σ : Mem} {t i : Nat} (hk : t < 8) : enc cy ad σ t i = .inr (t, (List.range (fN t)).map (fV ad σ t i)) := by
  unfold enc ak
  rw [if_pos hk]
  rfl
theorem up_obj {cy : Nat → ClassId} {ad : Nat → Nat → Nat} {σ : Mem} {t i j : Nat} {v : Int} (hk : t < 8) (hf : fp t j = none) : enc cy ad (up σ t i (j : Int) v) t i = .inr (t, ((List.range (fN t)).map (fV ad σ t i)).set j (.int (Int32.ofInt v))) := by
  rw [enc_obj hk]
  congr 2
  apply List.ext_getElem?
  intro k
  by_cases h : k = j
  · subst h
    by_cases hl : k < fN t
    · rw [List.getElem?_set_self (by simpa using hl), List.getElem?_map, List.getElem?_range hl]
      simp [fV, hf, up]
    · rw [List.getElem?_eq_none (by simpa using hl), List.getElem?_eq_none (by simpa using hl)]
  · rw [List.getElem?_set_ne (Ne.symm h), List.getElem?_map, List.getElem?_map]
    by_cases hl : k < fN t
    · rw [List.getElem?_range hl]
      have h2 : ¬ (k : Int) = (j : Int) := by omega
      simp [fV, up, h2]
    · rw [List.getElem?_eq_none (by simpa using hl)]
      rfl
