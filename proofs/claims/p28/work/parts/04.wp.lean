/-! locals -/
def lget : LL → Nat → Option AV
  | [], _ => none
  | a :: _, 0 => a
  | _ :: l, n + 1 => lget l n
def lset : LL → Nat → Option AV → LL
  | [], _, _ => []
  | _ :: l, 0, v => v :: l
  | a :: l, n + 1, v => a :: lset l n v
/-- the place before isn't the first half of a long -/
def okst (L : LL) : Nat → Prop
  | 0 => True
  | n + 1 => match lget L n with
    | some (.inr (.inr _)) => False
    | _ => True
theorem lget_set_same : ∀ {L : LL} {i : Nat} {v w : Option AV}, lget (lset L i v) i = w → i < L.length → v = w
  | [], _, _, _, _, h => absurd h (Nat.not_lt_zero _)
  | _ :: _, 0, _, _, h, _ => h
  | _ :: l, n + 1, _, _, h, h2 => lget_set_same (L := l) h (Nat.lt_of_succ_lt_succ h2)
theorem lget_set_ne : ∀ {L : LL} {i k : Nat} {v : Option AV}, k ≠ i → lget (lset L i v) k = lget L k
  | [], _, _, _, _ => rfl
  | _ :: _, 0, 0, _, h => absurd rfl h
  | _ :: _, 0, _ + 1, _, _ => rfl
  | _ :: _, _ + 1, 0, _, _ => rfl
  | _ :: l, n + 1, k + 1, _, h => lget_set_ne (L := l) (fun e => h (by rw [e]))
theorem lset_len : ∀ (L : LL) (i : Nat) (v : Option AV), (lset L i v).length = L.length
  | [], _, _ => rfl
  | _ :: _, 0, _ => rfl
  | _ :: l, n + 1, v => by simp [lset, lset_len l n v]
theorem lget_lt : ∀ {L : LL} {i : Nat} {v : AV}, lget L i = some v → i < L.length
  | [], _, _, h => by cases h
  | _ :: _, 0, _, _ => Nat.zero_lt_succ _
  | _ :: l, n + 1, _, h => Nat.succ_lt_succ (lget_lt (L := l) h)
/-- a step of the machine, over abstract values: what must hold for it to go on, and where it goes on -/
def cnd : Jvm.ClassFile.Cond → Int → Int → Prop
  | .eq, a, b => a = b
  | .ne, a, b => a ≠ b
  | .lt, a, b => a < b
  | .ge, a, b => b ≤ a
  | .gt, a, b => b < a
  | .le, a, b => a ≤ b
def swt (J : Nat → Prop) (x : Int) : Int → List Nat → Prop
  | _, [] => True
  | lo, t :: r => (x = lo → J t) ∧ swt J x (lo + 1) r
/-- what a method's instructions may look up: fields, constants, calls (how many are popped, what is asked), the script -/
abbrev MI : Type := (Nat → Option (Nat × Nat × Int)) × (Nat → Option Int) × (Nat → Option Int64) × (Nat → Option (Nat × Nat × Tr)) × Bool × Nat × (Int → Int)
def rcv (ci : Nat) : List AV → Prop
  | .inr (.inl c) :: _ => c.1 = ci
  | _ => False
def stp (M : MI) (K : Option Int → Mem → Prop) (N : LL → List AV → Mem → Prop) (J : Nat → LL → List AV → Mem → Prop) (tg : List Nat) (L : LL) (S : List AV) (σ : Mem) : Instr → Prop
  | .aload_n k => match lget L k with
    | some (.inr (.inl c)) => N L (.inr (.inl c) :: S) σ
    | _ => False
  | .aload k => match lget L k with
    | some (.inr (.inl c)) => N L (.inr (.inl c) :: S) σ
    | _ => False
  | .iload_n k => match lget L k with
    | some (.inl x) => N L (.inl x :: S) σ
    | _ => False
  | .iload k => match lget L k with
    | some (.inl x) => N L (.inl x :: S) σ
    | _ => False
  | .lload_n k => match lget L k with
    | some (.inr (.inr x)) => N L (.inr (.inr x) :: S) σ
    | _ => False
  | .lload k => match lget L k with
    | some (.inr (.inr x)) => N L (.inr (.inr x) :: S) σ
    | _ => False
  | .istore_n k => match S with
    | .inl x :: S' => (k : Nat) < L.length ∧ okst L k ∧ N (lset L k (some (.inl x))) S' σ
    | _ => False
  | .istore k => match S with
    | .inl x :: S' => k < L.length ∧ okst L k ∧ N (lset L k (some (.inl x))) S' σ
    | _ => False
  | .astore_n k => match S with
    | .inr (.inl c) :: S' => (k : Nat) < L.length ∧ okst L k ∧ N (lset L k (some (.inr (.inl c)))) S' σ
    | _ => False
  | .astore k => match S with
    | .inr (.inl c) :: S' => k < L.length ∧ okst L k ∧ N (lset L k (some (.inr (.inl c)))) S' σ
    | _ => False
  | .lstore_n k => match S with
    | .inr (.inr x) :: S' => (k : Nat) + 1 < L.length ∧ okst L k ∧ N (lset (lset L k (some (.inr (.inr x)))) (k + 1) none) S' σ
    | _ => False
  | .lstore k => match S with
    | .inr (.inr x) :: S' => k + 1 < L.length ∧ okst L k ∧ N (lset (lset L k (some (.inr (.inr x)))) (k + 1) none) S' σ
    | _ => False
  | .iconst i => N L (.inl i :: S) σ
  | .bipush i => N L (.inl i :: S) σ
  | .sipush i => N L (.inl i :: S) σ
  | .ldc k => match M.2.1 k with
    | some x => N L (.inl x :: S) σ
    | none => False
  | .lconst i => N L (.inr (.inr (Int64.ofNat (i : Nat))) :: S) σ
  | .ldc2_w k => match M.2.2.1 k with
    | some x => N L (.inr (.inr x) :: S) σ
    | none => False
  | .dup => match S with
    | .inl x :: S' => N L (.inl x :: .inl x :: S') σ
    | .inr (.inl x) :: S' => N L (.inr (.inl x) :: .inr (.inl x) :: S') σ
    | _ => False
  | .pop => match S with
    | .inl _ :: S' => N L S' σ
    | _ => False
  | .dup2 => match S with
    | .inl x :: .inr (.inl y) :: S' => N L (.inl x :: .inr (.inl y) :: .inl x :: .inr (.inl y) :: S') σ
    | _ => False
  | .iadd => match S with
    | .inl b :: .inl a :: S' => inR (a + b) ∧ N L (.inl (a + b) :: S') σ
    | _ => False
  | .isub => match S with
    | .inl b :: .inl a :: S' => inR (a - b) ∧ N L (.inl (a - b) :: S') σ
    | _ => False
  | .imul => match S with
    | .inl b :: .inl a :: S' => inR (a * b) ∧ N L (.inl (a * b) :: S') σ
    | _ => False
  | .idiv => match S with
    | .inl b :: .inl a :: S' => 0 ≤ a ∧ 0 < b ∧ N L (.inl (a / b) :: S') σ
    | _ => False
  | .irem => match S with
    | .inl b :: .inl a :: S' => 0 ≤ a ∧ 0 < b ∧ N L (.inl (a % b) :: S') σ
    | _ => False
  | .iand => match S with
    | .inl b :: .inl a :: S' => N L (.inl (band a b) :: S') σ
    | _ => False
  | .ior => match S with
    | .inl b :: .inl a :: S' => N L (.inl (bor a b) :: S') σ
    | _ => False
  | .ixor => match S with
    | .inl b :: .inl a :: S' => N L (.inl (bxor a b) :: S') σ
    | _ => False
  | .ishl => match S with
    | .inl b :: .inl a :: S' => N L (.inl (bshl a b) :: S') σ
    | _ => False
  | .ishr => match S with
    | .inl b :: .inl a :: S' => N L (.inl (bshr a b) :: S') σ
    | _ => False
  | .i2c => match S with
    | .inl a :: S' => N L (.inl (bchr a) :: S') σ
    | _ => False
  | .i2l => match S with
    | .inl a :: S' => N L (.inr (.inr (Int32.ofInt a).toInt64) :: S') σ
    | _ => False
  | .l2i => match S with
    | .inr (.inr a) :: S' => N L (.inl a.toInt32.toInt :: S') σ
    | _ => False
  | .land => match S with
    | .inr (.inr b) :: .inr (.inr a) :: S' => N L (.inr (.inr (a &&& b)) :: S') σ
    | _ => False
  | .lor => match S with
    | .inr (.inr b) :: .inr (.inr a) :: S' => N L (.inr (.inr (a ||| b)) :: S') σ
    | _ => False
  | .lshl => match S with
    | .inl b :: .inr (.inr a) :: S' => N L (.inr (.inr (a <<< ((Int32.ofInt b).toInt64 &&& 63))) :: S') σ
    | _ => False
  | .lshr => match S with
    | .inl b :: .inr (.inr a) :: S' => N L (.inr (.inr (a >>> ((Int32.ofInt b).toInt64 &&& 63))) :: S') σ
    | _ => False
  | .lushr => match S with
    | .inl b :: .inr (.inr a) :: S' => N L (.inr (.inr (a.toUInt64 >>> ((Int32.ofInt b).toInt64.toUInt64 &&& Int64.toUInt64 63)).toInt64) :: S') σ
    | _ => False
  | .lcmp => match S with
    | .inr (.inr b) :: .inr (.inr a) :: S' => N L (.inl (lg_cmp a b).toInt :: S') σ
    | _ => False
  | .iinc k n => match lget L k with
    | some (.inl x) => okst L k ∧ inR (x + n) ∧ N (lset L k (some (.inl (x + n)))) S σ
    | _ => False
  | .goto _ => match tg with
    | [t] => J t L S σ
    | _ => False
  | .ifCond c _ => match tg, S with
    | [t], .inl a :: S' => (cnd c a 0 → J t L S' σ) ∧ (¬ cnd c a 0 → N L S' σ)
    | _, _ => False
  | .if_icmp c _ => match tg, S with
    | [t], .inl b :: .inl a :: S' => (cnd c a b → J t L S' σ) ∧ (¬ cnd c a b → N L S' σ)
    | _, _ => False
  | .ifnull _ => match S with
    | .inr (.inl _) :: S' => N L S' σ
    | _ => False
  | .ifnonnull _ => match tg, S with
    | [t], .inr (.inl _) :: S' => J t L S' σ
    | _, _ => False
  | .tableswitch _ lo _ _ => match tg, S with
    | d :: ts, .inl x :: S' => swt (fun t => J t L S' σ) x lo ts ∧ (x < lo ∨ lo + ts.length ≤ x → J d L S' σ)
    | _, _ => False
  | .getfield k => match M.1 k, S with
    | some (t, j, z), .inr (.inl (t', i)) :: S' => t' = t ∧ (match fp t j with
      | none => N L (.inl (σ t i z) :: S') σ
      | some (t2, o) => N L (.inr (.inl (t2, i + o)) :: S') σ)
    | _, _ => False
  | .putfield k => match M.1 k, S with
    | some (t, j, z), .inl x :: .inr (.inl (t', i)) :: S' => t' = t ∧ fp t j = none ∧ (isZ t j = true → x = 0 ∨ x = 1) ∧ N L S' (up σ t i z x)
    | _, _ => False
  | .iaload => match S with
    | .inl x :: .inr (.inl (t, i)) :: S' => match ak t with
      | some (0, n) => (0 ≤ x ∧ x < n) ∧ N L (.inl (σ t i x) :: S') σ
      | some _ => False
      | none => t = 56 ∧ M.2.2.2.2.1 = true ∧ (0 ≤ x ∧ x < M.2.2.2.2.2.1) ∧ N L (.inl (M.2.2.2.2.2.2 x) :: S') σ
    | _ => False
  | .caload => match S with
    | .inl x :: .inr (.inl (t, i)) :: S' => match ak t with
      | some (1, n) => (0 ≤ x ∧ x < n) ∧ N L (.inl (σ t i x) :: S') σ
      | _ => False
    | _ => False
  | .baload => match S with
    | .inl x :: .inr (.inl (t, i)) :: S' => match ak t with
      | some (2, n) => (0 ≤ x ∧ x < n) ∧ N L (.inl (σ t i x) :: S') σ
      | _ => False
    | _ => False
  | .iastore => match S with
    | .inl v :: .inl x :: .inr (.inl (t, i)) :: S' => match ak t with
      | some (0, n) => (0 ≤ x ∧ x < n) ∧ N L S' (up σ t i x v)
      | _ => False
    | _ => False
  | .castore => match S with
    | .inl v :: .inl x :: .inr (.inl (t, i)) :: S' => match ak t with
      | some (1, n) => (0 ≤ x ∧ x < n) ∧ (0 ≤ v ∧ v < 65536) ∧ N L S' (up σ t i x v)
      | _ => False
    | _ => False
  | .bastore => match S with
    | .inl v :: .inl x :: .inr (.inl (t, i)) :: S' => match ak t with
      | some (2, n) => (0 ≤ x ∧ x < n) ∧ (v = 0 ∨ v = 1) ∧ N L S' (up σ t i x v)
      | _ => False
    | _ => False
  | .aaload => match S with
    | .inl x :: .inr (.inl (t, i)) :: S' => match ak t with
      | some (3, n) => (0 ≤ x ∧ x < n) ∧ N L (.inr (.inl (el t i x.toNat)) :: S') σ
      | some (4, n) => (0 ≤ x ∧ x < n) ∧ N L (.inr (.inl (el t i x.toNat)) :: S') σ
      | _ => False
    | _ => False
  | .arraylength => match S with
    | .inr (.inl (t, _)) :: S' => match ak t with
      | some (0, n) => N L (.inl n :: S') σ
      | some _ => False
      | none => t = 56 ∧ M.2.2.2.2.1 = true ∧ N L (.inl M.2.2.2.2.2.1 :: S') σ
    | _ => False
  | .invokevirtual k => match M.2.2.2.1 k with
    | some (n, ci, T) => ci < 8 ∧ n ≤ S.length ∧ S.length ≤ n + 4 ∧ rcv ci (S.take n).reverse ∧ T (S.take n).reverse σ (fun r σ' => N L ((r.map Sum.inl).toList ++ S.drop n) σ')
    | none => False
  | .invokestatic k => match M.2.2.2.1 k with
    | some (n, ci, T) => ci = 99 ∧ n ≤ S.length ∧ S.length ≤ n + 4 ∧ T (S.take n).reverse σ (fun r σ' => N L ((r.map Sum.inl).toList ++ S.drop n) σ')
    | none => False
  | .ireturn => match S with
    | [.inl x] => K (some x) σ
    | _ => False
  | .return_ => match S with
    | [] => K none σ
    | _ => False
  | _ => False
/-- where jumps go, as the decoded offsets say -/
def tgOK (pc : Nat) (tg : List Nat) : Instr → Bool
  | .goto o => tg.length == 1 && (pc : Int) + o == (tg.getD 0 0 : Nat)
  | .ifCond _ o => tg.length == 1 && (pc : Int) + o == (tg.getD 0 0 : Nat)
  | .if_icmp _ o => tg.length == 1 && (pc : Int) + o == (tg.getD 0 0 : Nat)
  | .ifnonnull o => tg.length == 1 && (pc : Int) + o == (tg.getD 0 0 : Nat)
  | .tableswitch d lo hi os => hi + 1 == lo + os.size && ((d :: os.toList).map (fun o => (pc : Int) + o) == (tg : List Nat).map (fun t : Nat => (t : Int)))
  | .iconst i => decide (-128 ≤ i ∧ i < 128)
  | .bipush i => decide (-128 ≤ i ∧ i < 128)
  | .sipush i => decide (-32768 ≤ i ∧ i < 32768)
  | _ => true
abbrev CL : Type := List (Nat × Instr × Nat × List Nat)
def drp (t : Nat) : CL → CL
  | [] => []
  | q :: r => if q.1 = t then q :: r else drp t r
abbrev Cut : Type := Nat → Option (LL → List AV → Mem → Nat → Prop)
def wp (M : MI) (C : CL) (cut : Cut) (bd : Nat → Prop) (K : Option Int → Mem → Prop) : Nat → CL → LL → List AV → Mem → Prop
  | 0, _, _, _, _ => False
  | _ + 1, [], _, _, _ => False
  | n + 1, q :: r, L, S, σ => stp M K
      (fun L' S' σ' => match cut (q.1 + q.2.2.1) with
        | some I => ∃ k, bd k ∧ I L' S' σ' k
        | none => wp M C cut bd K n r L' S' σ')
      (fun t L' S' σ' => match cut t with
        | some I => ∃ k, bd k ∧ I L' S' σ' k
        | none => wp M C cut bd K n (drp t C) L' S' σ')
      q.2.2.2 L S σ q.2.1
