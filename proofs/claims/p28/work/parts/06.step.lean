/-- the lengths of the instructions -/
def ilen : Instr → Option Nat
  | .aload_n _ => some 1
  | .aload _ => some 2
  | .iload_n _ => some 1
  | .iload _ => some 2
  | .lload_n _ => some 1
  | .lload _ => some 2
  | .istore_n _ => some 1
  | .istore _ => some 2
  | .astore_n _ => some 1
  | .astore _ => some 2
  | .lstore_n _ => some 1
  | .lstore _ => some 2
  | .iconst _ => some 1
  | .bipush _ => some 2
  | .sipush _ => some 3
  | .ldc _ => some 2
  | .lconst _ => some 1
  | .ldc2_w _ => some 3
  | .dup => some 1
  | .pop => some 1
  | .dup2 => some 1
  | .iadd => some 1
  | .isub => some 1
  | .imul => some 1
  | .idiv => some 1
  | .irem => some 1
  | .iand => some 1
  | .ior => some 1
  | .ixor => some 1
  | .ishl => some 1
  | .ishr => some 1
  | .i2c => some 1
  | .i2l => some 1
  | .l2i => some 1
  | .land => some 1
  | .lor => some 1
  | .lshl => some 1
  | .lshr => some 1
  | .lushr => some 1
  | .lcmp => some 1
  | .iinc _ _ => some 3
  | .goto _ => some 3
  | .ifCond _ _ => some 3
  | .if_icmp _ _ => some 3
  | .ifnull _ => some 3
  | .ifnonnull _ => some 3
  | .getfield _ => some 3
  | .putfield _ => some 3
  | .iaload => some 1
  | .caload => some 1
  | .baload => some 1
  | .iastore => some 1
  | .castore => some 1
  | .bastore => some 1
  | .aaload => some 1
  | .arraylength => some 1
  | .invokevirtual _ => some 3
  | .invokestatic _ => some 3
  | .ireturn => some 1
  | .return_ => some 1
  | _ => none
theorem bip {i : Int} (h : -128 ≤ i ∧ i < 128) : (Int8.ofInt i).toInt32 = Int32.ofInt i := by
  apply Int32.toInt_inj.mp
  rw [oI (by constructor <;> omega), Int8.toInt_toInt32, Int8.toInt_ofInt]
  rw [show Int8.size = 256 from rfl, Int.bmod_def]
  omega
theorem sip {i : Int} (h : -32768 ≤ i ∧ i < 32768) : (Int16.ofInt i).toInt32 = Int32.ofInt i := by
  apply Int32.toInt_inj.mp
  rw [oI (by constructor <;> omega), Int16.toInt_toInt32, Int16.toInt_ofInt]
  rw [show Int16.size = 65536 from rfl, Int.bmod_def]
  omega
theorem inRb {i : Int} (h : -32768 ≤ i ∧ i < 32768) : inR i := by constructor <;> omega
theorem inRd {a b : Int} (ha : 0 ≤ a) (hb : 0 < b) (ra : inR a) : inR (a / b) := by
  have h1 := Int.ediv_nonneg ha (Int.le_of_lt hb)
  have h2 := Int.ediv_le_self b ha
  have := ra.2
  constructor <;> omega
theorem inRm {a b : Int} (hb : 0 < b) (rb : inR b) : inR (a % b) := by
  have h1 := Int.emod_nonneg a (by omega : b ≠ 0)
  have h2 := Int.emod_lt_of_pos a hb
  have := rb.2
  constructor <;> omega
theorem swt_at {J : Nat → Prop} {x : Int} : ∀ {ts : List Nat} {lo : Int} {n t : Nat}, swt J x lo ts → ts[n]? = some t → x = lo + n → J t
  | [], _, _, _, _, h, _ => by simp at h
  | a :: r, lo, 0, t, h, h2, h3 => by
    rw [List.getElem?_cons_zero] at h2
    cases h2
    exact h.1 (by omega)
  | a :: r, lo, n + 1, t, h, h2, h3 => by
    rw [List.getElem?_cons_succ] at h2
    exact swt_at (lo := lo + 1) h.2 h2 (by omega)
theorem va_aldqA {p : Program} {l : Launch} {e : Env} {R : Room} {s : State} {m : MethodId} {args : Array Value} {below : List Frame} {meth : Method} {c : Code} {H : Heap} {locs : List Loc} {cells slots : Nat} {Q : State → Prop} {cc : ByteArray} {pc : Nat} {ls : Array Slot} {rest : List Value} {D : va_G} {cl : List vw_C} {a : Nat} {tys : List (ClassId × FieldType)} {ws : va_W}
    (hexec : p.tables.exec = Jvm.exec) (hb : c.code = cc) (hK : va_K D cl tys s) (hP : va_P D cl ws H) (q0 t0 : Nat) {cA : ClassId} {n : Nat} {f : Nat → Option Nat} (ha : ws[q0]? = some (a, .inl (cA, n, .inr (.inr (.inr (.inr f)))))) (ht : tys[t0]? = some (cA, .array .int)) {i : Int32} (hin : vp_in i n) (hdg : decode cc pc = .ok (.aaload, 1))
    (kk : W p l e R s m args below meth c H locs cells slots Q (F0 m (pc + 1) ls (va_rf (f i.toNatClampNeg) :: rest))) : W p l e R s m args below meth c H locs cells slots Q (F0 m pc ls (.int i :: .ref a :: rest)) := by
  have hlt : i.toNatClampNeg < n := Nat.not_le.mp fun q => hin (Or.inr q)
  exact W.aald (v := va_rf (f i.toNatClampNeg)) (ty := .array .int) hexec hb (hP q0 _ ha) ((hK.2 t0 _ ht).1 n (fun j => va_rf (f j))) rfl (fun q => by cases q) (by show ¬ (i < 0 ∨ (arrV _ _ _).slots.size ≤ _); rw [arrV_size]; exact hin) (by show (arrV _ _ _).slots[_]? = _; rw [arrV_read _ _ hlt]) rfl rfl hdg kk
theorem narC {v : Int} (h : 0 ≤ v ∧ v < 65536) : vp_nar .char (Int32.ofInt v) = Int32.ofInt v := by
  rw [vp_nar_char, ← lg_i2c_nf]
  exact lg_i2c_word (by rw [oI (by constructor <;> omega)]; exact h.1) (by rw [oI (by constructor <;> omega)]; exact h.2)
theorem narZ {v : Int} (h : v = 0 ∨ v = 1) : vp_nar .boolean (Int32.ofInt v) = Int32.ofInt v := by
  rcases h with rfl | rfl <;> rfl
section
variable {xx : Bool} {p : Program} {l : Launch} {e : Env} {R : Room} {s : State} {m : MethodId} {args : Array Value} {below : List Frame} {meth : Method} {c : Code} {cells slots : Nat} {Q : State → Prop} {D : va_G} {cy : Nat → ClassId} {ad : Nat → Nat → Nat} {A : Nat → Prop} {cc : ByteArray} {nL : Nat}
/-- the script is the one cell of its kind -/
theorem ref56 {t i : Nat} (h : okV xx (.inr (.inl (t, i)))) (ht : t = 56) : i = 0 := by
  subst ht
  rcases h with h | h
  · exact (cnt_56 h).elim
  · exact (Prod.mk.inj h).2
theorem refN {t i : Nat} (h : okV xx (.inr (.inl (t, i)))) (ht : t ≠ 56) : i < cnt xx t := by
  rcases h with h | h
  · exact h
  · exact absurd (Prod.mk.inj h).1 ht
theorem ak56 {t : Nat} {q : Nat × Nat} (h : ak t = some q) : t ≠ 56 := by
  rintro rfl
  cases h
theorem ak_sm {t : Nat} {q : Nat × Nat} (h : ak t = some q) {i : Nat} (h2 : okV xx (.inr (.inl (t, i)))) : q.2 < 2 ^ 31 := by
  have := ak_small t (cnt_lt (refN h2 (ak56 h))) q h
  omega
theorem vp_inA {t i n k : Nat} {x : Int} (h : ak t = some (k, n)) (h2 : okV xx (.inr (.inl (t, i)))) (hx : 0 ≤ x ∧ x < n) : vp_in (Int32.ofInt x) n := vp_inO hx.1 hx.2 (ak_sm h h2)
theorem clA {t i n k : Nat} {x : Int} (h : ak t = some (k, n)) (h2 : okV xx (.inr (.inl (t, i)))) (hx : 0 ≤ x ∧ x < n) : (Int32.ofInt x).toNatClampNeg = x.toNat := oClamp hx.1 (by have : n < 2 ^ 31 := ak_sm h h2; omega)
theorem cndI {cd : Jvm.ClassFile.Cond} {a b : Int} (ha : inR a) (hb : inR b) : True := trivial
theorem ok_up {t i q : Nat} {j v : Int} {e : va_E} {H H1 : Heap} {locs locs1 : List Loc} {H0 : Heap} {σ : Mem} (hO : Ok xx D cy ad A H0 H locs σ) (hv : inR v) (hq : (cs xx)[q]? = some (t, i)) (he : enc cy ad (up σ t i j v) t i = e) (hP : va_P D classes ((pool xx cy ad σ).set q (ad t i, e)) H1) (hS : va_S A H0 H1 locs1) : Ok xx D cy ad A H0 H1 locs1 (up σ t i j v) := by
  refine ⟨?_, hS, fun t' i' j' => ?_⟩
  · rw [← pool_set hq he up_other]
    exact hP
  · unfold up
    split
    · exact hv
    · exact hO.2.2 _ _ _
set_option maxHeartbeats 8000000 in
theorem stp_sound {own : String} {M : MI} {K : Option Int → Mem → Prop} (X : Cx xx p l e R s m args below meth c cells slots Q D cy ad A cc nL own M K) {N : LL → List AV → Mem → Prop} {J : Nat → LL → List AV → Mem → Prop} {pc len : Nat} {ins : Instr} {tg : List Nat} {L : LL} {S : List AV} {σ : Mem}
    (hd : decode cc pc = .ok (ins, len)) (hlen : ilen ins = none ∨ ilen ins = some len) (htg : tgOK pc tg ins = true) (h : stp M K N J tg L S σ ins)
    (hN : ∀ L' S' σ', N L' S' σ' → Gd xx p l e R s m args below meth c cells slots Q D cy ad A nL (pc + len) L' S' σ')
    (hJ : ∀ t L' S' σ', J t L' S' σ' → Gd xx p l e R s m args below meth c cells slots Q D cy ad A nL t L' S' σ') :
    Gd xx p l e R s m args below meth c cells slots Q D cy ad A nL pc L S σ := by
  obtain ⟨⟨hx, hb, hown, hts, hK, hDD⟩, hF, hC, hCL, hCR, hSc, hRI, hRV⟩ := X
  intro H locs ls hO hr hL hS
  have hP := hO.1
  have hSS := hO.2.1
  have hD := hDD σ
  cases ins <;> try exact (h : False).elim
  all_goals (rcases hlen with q | q <;> cases q)
  all_goals simp only [stp] at h
  case aload_n k =>
    split at h
    · rename_i _ x0 heq
      exact lv_aload_n hx hb hd rfl (rel_at hr heq) (hN _ _ _ h H locs ls hO hr hL (okS_push (hL _ _ heq) hS))
    · exact h.elim
  case aload k =>
    split at h
    · rename_i _ x0 heq
      exact lv_aload hx hb hd (rel_at hr heq) (hN _ _ _ h H locs ls hO hr hL (okS_push (hL _ _ heq) hS))
    · exact h.elim
  case iload_n k =>
    split at h
    · rename_i _ x0 heq
      exact lv_iload_n hx hb hd rfl (rel_at hr heq) (hN _ _ _ h H locs ls hO hr hL (okS_push (hL _ _ heq) hS))
    · exact h.elim
  case iload k =>
    split at h
    · rename_i _ x0 heq
      exact lv_iload hx hb hd (rel_at hr heq) (hN _ _ _ h H locs ls hO hr hL (okS_push (hL _ _ heq) hS))
    · exact h.elim
  case lload_n k =>
    split at h
    · rename_i _ x0 heq
      exact lv_lload_n hx hb hd rfl (rel_at hr heq) (hN _ _ _ h H locs ls hO hr hL (okS_push (hL _ _ heq) hS))
    · exact h.elim
  case lload k =>
    split at h
    · rename_i _ x0 heq
      exact lv_lload hx hb hd (rel_at hr heq) (hN _ _ _ h H locs ls hO hr hL (okS_push (hL _ _ heq) hS))
    · exact h.elim
  case istore_n k =>
    split at h
    · obtain ⟨h1, h2, h3⟩ := h
      obtain ⟨hv, hS'⟩ := okS_cons hS
      exact lv_istore_n hx hb hd rfl (rel_has hr) (by rw [← hr.1]; exact h1) rfl (fun ls' hl' => hN _ _ _ h3 H locs ls' hO (rel_store hr.1 h1 h2 hl') (okL_set hL hv h1) hS')
    · exact h.elim
  case istore k =>
    split at h
    · obtain ⟨h1, h2, h3⟩ := h
      obtain ⟨hv, hS'⟩ := okS_cons hS
      exact lv_istore hx hb hd (rel_has hr) (by rw [← hr.1]; exact h1) rfl (fun ls' hl' => hN _ _ _ h3 H locs ls' hO (rel_store hr.1 h1 h2 hl') (okL_set hL hv h1) hS')
    · exact h.elim
  case astore_n k =>
    split at h
    · obtain ⟨h1, h2, h3⟩ := h
      obtain ⟨hv, hS'⟩ := okS_cons hS
      exact lv_astore_n hx hb hd rfl (rel_has hr) (by rw [← hr.1]; exact h1) rfl (fun ls' hl' => hN _ _ _ h3 H locs ls' hO (rel_store hr.1 h1 h2 hl') (okL_set hL hv h1) hS')
    · exact h.elim
  case astore k =>
    split at h
    · obtain ⟨h1, h2, h3⟩ := h
      obtain ⟨hv, hS'⟩ := okS_cons hS
      exact lv_astore hx hb hd (rel_has hr) (by rw [← hr.1]; exact h1) rfl (fun ls' hl' => hN _ _ _ h3 H locs ls' hO (rel_store hr.1 h1 h2 hl') (okL_set hL hv h1) hS')
    · exact h.elim
  case lstore_n k =>
    split at h
    · obtain ⟨h1, h2, h3⟩ := h
      obtain ⟨hv, hS'⟩ := okS_cons hS
      exact lv_lstore_n hx hb hd rfl (rel_has hr) (by rw [← hr.1]; exact h1) rfl (fun ls' hl' => hN _ _ _ h3 H locs ls' hO (rel_store2 hr.1 h1 h2 hl') (okL_set2 hL hv h1) hS')
    · exact h.elim
  case lstore k =>
    split at h
    · obtain ⟨h1, h2, h3⟩ := h
      obtain ⟨hv, hS'⟩ := okS_cons hS
      exact lv_lstore hx hb hd (rel_has hr) (by rw [← hr.1]; exact h1) rfl (fun ls' hl' => hN _ _ _ h3 H locs ls' hO (rel_store2 hr.1 h1 h2 hl') (okL_set2 hL hv h1) hS')
    · exact h.elim
  case iconst i =>
    exact lv_iconst hx hb hd rfl (hN _ _ _ h H locs ls hO hr hL (okS_push (v := .inl i) (inRb (by have := of_decide_eq_true htg; omega)) hS))
  case bipush i =>
    exact lv_bipush hx hb hd (bip (of_decide_eq_true htg)) (hN _ _ _ h H locs ls hO hr hL (okS_push (v := .inl i) (inRb (by have := of_decide_eq_true htg; omega)) hS))
  case sipush i =>
    exact lv_sipush hx hb hd (sip (of_decide_eq_true htg)) (hN _ _ _ h H locs ls hO hr hL (okS_push (v := .inl i) (inRb (by have := of_decide_eq_true htg; omega)) hS))
  case ldc k =>
    split at h
    · rename_i _ x heq
      exact lv_ldc hx hb hown (hC _ _ heq).2 hd (hN _ _ _ h H locs ls hO hr hL (okS_push (v := .inl x) (hC _ _ heq).1 hS))
    · exact h.elim
  case ldc2_w k =>
    split at h
    · rename_i _ x heq
      exact lv_ldc2 hx hb hown (hCL _ _ heq) hd (hN _ _ _ h H locs ls hO hr hL (okS_push (v := .inr (.inr x)) trivial hS))
    · exact h.elim
  case lconst i =>
    exact lv_lconst hx hb hd rfl (hN _ _ _ h H locs ls hO hr hL (okS_push (v := .inr (.inr _)) trivial hS))
  case dup =>
    split at h
    · obtain ⟨hv, hS'⟩ := okS_cons hS
      exact lv_dup hx hb hd rfl (hN _ _ _ h H locs ls hO hr hL (okS_push hv hS))
    · obtain ⟨hv, hS'⟩ := okS_cons hS
      exact lv_dup hx hb hd rfl (hN _ _ _ h H locs ls hO hr hL (okS_push hv hS))
    · exact h.elim
  case pop =>
    split at h
    · obtain ⟨hv, hS'⟩ := okS_cons hS
      exact lv_pop hx hb hd rfl (hN _ _ _ h H locs ls hO hr hL hS')
    · exact h.elim
  case dup2 =>
    split at h
    · obtain ⟨hv, hS'⟩ := okS_cons hS
      obtain ⟨hw, -⟩ := okS_cons hS'
      exact lv_dup2_11 hx hb hd rfl rfl (hN _ _ _ h H locs ls hO hr hL (okS_push hv (okS_push hw hS)))
    · exact h.elim
  case iadd =>
    split at h
    · rename_i b a S'
      obtain ⟨hv, hS'⟩ := okS_cons hS
      obtain ⟨hw, hS''⟩ := okS_cons hS'
      refine lv_iadd hx hb hd ?_
      rw [oAdd]
      exact hN _ _ _ h.2 H locs ls hO hr hL (okS_push (v := .inl (a + b)) h.1 hS'')
    · exact h.elim
  case isub =>
    split at h
    · rename_i b a S'
      obtain ⟨hv, hS'⟩ := okS_cons hS
      obtain ⟨hw, hS''⟩ := okS_cons hS'
      refine lv_isub hx hb hd ?_
      rw [oSub]
      exact hN _ _ _ h.2 H locs ls hO hr hL (okS_push (v := .inl (a - b)) h.1 hS'')
    · exact h.elim
  case imul =>
    split at h
    · rename_i b a S'
      obtain ⟨hv, hS'⟩ := okS_cons hS
      obtain ⟨hw, hS''⟩ := okS_cons hS'
      refine lv_imul hx hb hd ?_
      rw [oMul]
      exact hN _ _ _ h.2 H locs ls hO hr hL (okS_push (v := .inl (a * b)) h.1 hS'')
    · exact h.elim
  case idiv =>
    split at h
    · rename_i b a S'
      obtain ⟨hv, hS'⟩ := okS_cons hS
      obtain ⟨hw, hS''⟩ := okS_cons hS'
      refine lv_idiv hx hb hd (fun q => ?_) ?_
      · have := (oEq hv inR0).mp q
        have := h.2.1
        omega
      rw [oDiv h.1 h.2.1 hw hv]
      exact hN _ _ _ h.2.2 H locs ls hO hr hL (okS_push (v := .inl (a / b)) (inRd h.1 h.2.1 hw) hS'')
    · exact h.elim
  case irem =>
    split at h
    · rename_i b a S'
      obtain ⟨hv, hS'⟩ := okS_cons hS
      obtain ⟨hw, hS''⟩ := okS_cons hS'
      refine lv_irem hx hb hd (fun q => ?_) ?_
      · have := (oEq hv inR0).mp q
        have := h.2.1
        omega
      rw [oRem h.1 h.2.1 hw hv]
      exact hN _ _ _ h.2.2 H locs ls hO hr hL (okS_push (v := .inl (a % b)) (inRm h.2.1 hv) hS'')
    · exact h.elim
  case iand =>
    split at h
    · rename_i b a S'
      obtain ⟨hv, hS'⟩ := okS_cons hS
      obtain ⟨hw, hS''⟩ := okS_cons hS'
      refine lv_iand hx hb hd ?_
      have q := hN _ _ _ h H locs ls hO hr hL (okS_push (v := .inl (band a b)) (show inR (band a b) by rw [band_eq]; exact inR_t _) hS'')
      simp only [List.map_cons, vV, band_eq, oT] at q
      exact q
    · exact h.elim
  case ior =>
    split at h
    · rename_i b a S'
      obtain ⟨hv, hS'⟩ := okS_cons hS
      obtain ⟨hw, hS''⟩ := okS_cons hS'
      refine lv_ior hx hb hd ?_
      have q := hN _ _ _ h H locs ls hO hr hL (okS_push (v := .inl (bor a b)) (show inR (bor a b) by rw [bor_eq]; exact inR_t _) hS'')
      simp only [List.map_cons, vV, bor_eq, oT] at q
      exact q
    · exact h.elim
  case ixor =>
    split at h
    · rename_i b a S'
      obtain ⟨hv, hS'⟩ := okS_cons hS
      obtain ⟨hw, hS''⟩ := okS_cons hS'
      refine lv_ixor hx hb hd ?_
      have q := hN _ _ _ h H locs ls hO hr hL (okS_push (v := .inl (bxor a b)) (show inR (bxor a b) by rw [bxor_eq]; exact inR_t _) hS'')
      simp only [List.map_cons, vV, bxor_eq, oT] at q
      exact q
    · exact h.elim
  case ishl =>
    split at h
    · rename_i b a S'
      obtain ⟨hv, hS'⟩ := okS_cons hS
      obtain ⟨hw, hS''⟩ := okS_cons hS'
      refine lv_ishl hx hb hd ?_
      have q := hN _ _ _ h H locs ls hO hr hL (okS_push (v := .inl (bshl a b)) (show inR (bshl a b) by rw [bshl_eq]; exact inR_t _) hS'')
      simp only [List.map_cons, vV, bshl_eq, oT] at q
      exact q
    · exact h.elim
  case ishr =>
    split at h
    · rename_i b a S'
      obtain ⟨hv, hS'⟩ := okS_cons hS
      obtain ⟨hw, hS''⟩ := okS_cons hS'
      refine lv_ishr hx hb hd ?_
      have q := hN _ _ _ h H locs ls hO hr hL (okS_push (v := .inl (bshr a b)) (show inR (bshr a b) by rw [bshr_eq]; exact inR_t _) hS'')
      simp only [List.map_cons, vV, bshr_eq, oT] at q
      exact q
    · exact h.elim
  case i2c =>
    split at h
    · rename_i a S'
      obtain ⟨hv, hS'⟩ := okS_cons hS
      refine lv_i2c hx hb hd rfl ?_
      have q := hN _ _ _ h H locs ls hO hr hL (okS_push (v := .inl (bchr a)) (show inR (bchr a) by rw [bchr_eq]; exact inR_t _) hS')
      simp only [List.map_cons, vV, bchr_eq, oT] at q
      exact q
    · exact h.elim
  case i2l =>
    split at h
    · obtain ⟨hv, hS'⟩ := okS_cons hS
      exact lv_i2l hx hb hd rfl (hN _ _ _ h H locs ls hO hr hL (okS_push (v := .inr (.inr _)) trivial hS'))
    · exact h.elim
  case l2i =>
    split at h
    · rename_i a S'
      obtain ⟨hv, hS'⟩ := okS_cons hS
      refine lv_l2i hx hb hd rfl ?_
      have q := hN _ _ _ h H locs ls hO hr hL (okS_push (v := .inl a.toInt32.toInt) (inR_t _) hS')
      simp only [List.map_cons, vV, oT] at q
      exact q
    · exact h.elim
  case land =>
    split at h
    · obtain ⟨hv, hS'⟩ := okS_cons hS
      obtain ⟨hw, hS''⟩ := okS_cons hS'
      exact lv_land hx hb hd (hN _ _ _ h H locs ls hO hr hL (okS_push (v := .inr (.inr _)) trivial hS''))
    · exact h.elim
  case lor =>
    split at h
    · obtain ⟨hv, hS'⟩ := okS_cons hS
      obtain ⟨hw, hS''⟩ := okS_cons hS'
      exact lv_lor hx hb hd (hN _ _ _ h H locs ls hO hr hL (okS_push (v := .inr (.inr _)) trivial hS''))
    · exact h.elim
  case lshl =>
    split at h
    · obtain ⟨hv, hS'⟩ := okS_cons hS
      obtain ⟨hw, hS''⟩ := okS_cons hS'
      exact lv_lshl hx hb hd rfl (hN _ _ _ h H locs ls hO hr hL (okS_push (v := .inr (.inr _)) trivial hS''))
    · exact h.elim
  case lshr =>
    split at h
    · obtain ⟨hv, hS'⟩ := okS_cons hS
      obtain ⟨hw, hS''⟩ := okS_cons hS'
      exact lv_lshr hx hb hd rfl (hN _ _ _ h H locs ls hO hr hL (okS_push (v := .inr (.inr _)) trivial hS''))
    · exact h.elim
  case lushr =>
    split at h
    · obtain ⟨hv, hS'⟩ := okS_cons hS
      obtain ⟨hw, hS''⟩ := okS_cons hS'
      exact lv_lushr hx hb hd rfl (hN _ _ _ h H locs ls hO hr hL (okS_push (v := .inr (.inr _)) trivial hS''))
    · exact h.elim
  case lcmp =>
    split at h
    · rename_i b a S'
      obtain ⟨hv, hS'⟩ := okS_cons hS
      obtain ⟨hw, hS''⟩ := okS_cons hS'
      refine W.lcmp hx hb hd ?_
      have q := hN _ _ _ h H locs ls hO hr hL (okS_push (v := .inl (lg_cmp a b).toInt) (inR_t _) hS'')
      simp only [List.map_cons, vV, oT] at q
      exact q
    · exact h.elim
  case iinc k n =>
    split at h
    · rename_i _ x heq
      obtain ⟨h1, h2, h3⟩ := h
      obtain ⟨j, hj⟩ := List.getElem?_of_mem (lp_mem (ad := ad) heq)
      have hlt := lget_lt heq
      exact lv_iinc (v := Int32.ofInt (x + n)) hx hb hd (rel_has hr) hj (oAdd x n) (by rw [← hr.1]; exact hlt) rfl (fun ls' hl' => hN _ _ _ h3 H locs ls' hO (rel_store (v := .inl (x + n)) hr.1 hlt h1 hl') (okL_set (v := .inl (x + n)) hL h2 hlt) hS)
    · exact h.elim
  case goto o =>
    split at h
    · rename_i t
      refine lv_goto (tgt := t) hx hb hd ?_ (hJ _ _ _ _ h H locs ls hO hr hL hS)
      simpa [tgOK] using htg
    · exact h.elim
  case ifCond cd o =>
    split at h
    · rename_i t a S'
      have ht : (pc : Int) + o = (t : Int) := by simpa [tgOK] using htg
      obtain ⟨hv, hS'⟩ := okS_cons hS
      cases cd
      · exact lv_if_eq (tgt := t) hx hb hd ht (fun q => hJ _ _ _ _ (h.1 ((oEq hv inR0).mp q)) H locs ls hO hr hL hS') (fun q => hN _ _ _ (h.2 (fun z => q ((oEq hv inR0).mpr z))) H locs ls hO hr hL hS')
      · exact lv_if_ne (tgt := t) hx hb hd ht (fun q => hJ _ _ _ _ (h.1 (fun z => q ((oEq hv inR0).mpr z))) H locs ls hO hr hL hS') (fun q => hN _ _ _ (h.2 (fun z => z ((oEq hv inR0).mp q))) H locs ls hO hr hL hS')
      · exact lv_if_lt (tgt := t) hx hb hd ht (fun q => hJ _ _ _ _ (h.1 ((oLt hv inR0).mp q)) H locs ls hO hr hL hS') (fun q => hN _ _ _ (h.2 (fun z => q ((oLt hv inR0).mpr z))) H locs ls hO hr hL hS')
      · exact lv_if_ge (tgt := t) hx hb hd ht (fun q => hJ _ _ _ _ (h.1 ((oLe inR0 hv).mp q)) H locs ls hO hr hL hS') (fun q => hN _ _ _ (h.2 (fun z => q ((oLe inR0 hv).mpr z))) H locs ls hO hr hL hS')
      · exact lv_if_gt (tgt := t) hx hb hd ht (fun q => hJ _ _ _ _ (h.1 ((oLt inR0 hv).mp q)) H locs ls hO hr hL hS') (fun q => hN _ _ _ (h.2 (fun z => q ((oLt inR0 hv).mpr z))) H locs ls hO hr hL hS')
      · exact lv_if_le (tgt := t) hx hb hd ht (fun q => hJ _ _ _ _ (h.1 ((oLe hv inR0).mp q)) H locs ls hO hr hL hS') (fun q => hN _ _ _ (h.2 (fun z => q ((oLe hv inR0).mpr z))) H locs ls hO hr hL hS')
    · exact h.elim
  case if_icmp cd o =>
    split at h
    · rename_i t b a S'
      have ht : (pc : Int) + o = (t : Int) := by simpa [tgOK] using htg
      obtain ⟨hv, hS'⟩ := okS_cons hS
      obtain ⟨hw, hS''⟩ := okS_cons hS'
      cases cd
      · exact lv_icmp_eq (tgt := t) hx hb hd ht (fun q => hJ _ _ _ _ (h.1 ((oEq hw hv).mp q)) H locs ls hO hr hL hS'') (fun q => hN _ _ _ (h.2 (fun z => q ((oEq hw hv).mpr z))) H locs ls hO hr hL hS'')
      · exact lv_icmp_ne (tgt := t) hx hb hd ht (fun q => hJ _ _ _ _ (h.1 (fun z => q ((oEq hw hv).mpr z))) H locs ls hO hr hL hS'') (fun q => hN _ _ _ (h.2 (fun z => z ((oEq hw hv).mp q))) H locs ls hO hr hL hS'')
      · exact lv_icmp_lt (tgt := t) hx hb hd ht (fun q => hJ _ _ _ _ (h.1 ((oLt hw hv).mp q)) H locs ls hO hr hL hS'') (fun q => hN _ _ _ (h.2 (fun z => q ((oLt hw hv).mpr z))) H locs ls hO hr hL hS'')
      · exact lv_icmp_ge (tgt := t) hx hb hd ht (fun q => hJ _ _ _ _ (h.1 ((oLe hv hw).mp q)) H locs ls hO hr hL hS'') (fun q => hN _ _ _ (h.2 (fun z => q ((oLe hv hw).mpr z))) H locs ls hO hr hL hS'')
      · exact lv_icmp_gt (tgt := t) hx hb hd ht (fun q => hJ _ _ _ _ (h.1 ((oLt hv hw).mp q)) H locs ls hO hr hL hS'') (fun q => hN _ _ _ (h.2 (fun z => q ((oLt hv hw).mpr z))) H locs ls hO hr hL hS'')
      · exact lv_icmp_le (tgt := t) hx hb hd ht (fun q => hJ _ _ _ _ (h.1 ((oLe hw hv).mp q)) H locs ls hO hr hL hS'') (fun q => hN _ _ _ (h.2 (fun z => q ((oLe hw hv).mpr z))) H locs ls hO hr hL hS'')
    · exact h.elim
  case ifnull o =>
    split at h
    · exact lv_ifnull hx hb hd (hN _ _ _ h H locs ls hO hr hL (okS_cons hS).2)
    · exact h.elim
  case ifnonnull o =>
    split at h
    · rename_i t _ S'
      exact lv_ifnonnull (tgt := t) hx hb hd (by simpa [tgOK] using htg) (hJ _ _ _ _ h H locs ls hO hr hL (okS_cons hS).2)
    · exact h.elim
  case tableswitch df lo hi os =>
    split at h
    · rename_i d ts x S'
      obtain ⟨hv, hS'⟩ := okS_cons hS
      simp only [tgOK, List.map_cons, Bool.and_eq_true, beq_iff_eq, List.cons.injEq] at htg
      obtain ⟨hhi, hd0, hos⟩ := htg
      have hle : os.size = ts.length := by
        have := congrArg List.length hos
        simpa using this
      by_cases hin : x < lo ∨ lo + ts.length ≤ x
      · exact lv_tableOut (tgt := d) hx hb hd (by rw [oI hv]; omega) hd0 (hJ _ _ _ _ (h.2 hin) H locs ls hO hr hL hS')
      · have hn : (x - lo).toNat < ts.length := by omega
        have e1 : ts[(x - lo).toNat]? = some ts[(x - lo).toNat] := List.getElem?_eq_getElem hn
        have e2 : os[(x - lo).toNat]? = some (os[(x - lo).toNat]'(by omega)) := Array.getElem?_eq_getElem (by omega)
        have e3 : (pc : Int) + (os[(x - lo).toNat]'(by omega)) = ((ts[(x - lo).toNat] : Nat) : Int) := by
          have := congrArg (fun l => l[(x - lo).toNat]?) hos
          simp only [List.getElem?_map, e1, Array.getElem?_toList, e2, Option.map_some, Option.some.injEq] at this
          exact this
        exact lv_tableIn (tgt := ts[(x - lo).toNat]) hx hb hd (by rw [oI hv]; omega) (by rw [oI hv]; omega) (by rw [oI hv]; exact e2) e3 (hJ _ _ _ _ (swt_at h.1 e1 (by omega)) H locs ls hO hr hL hS')
    · exact h.elim
  case getfield k =>
    split at h
    · rename_i t j z t' i S' heq
      obtain ⟨rfl, h⟩ := h
      obtain ⟨hv, hS'⟩ := okS_cons hS
      obtain ⟨q, hq, rfl, hj, hlk⟩ := hF _ _ _ _ heq
      obtain ⟨hn, h8, hws, hnm, ty, hty, hfi⟩ := cls_ok _ _ hq
      have hi := refN hv (by omega)
      obtain ⟨q0, hc0, hp0⟩ := pool_at cy ad σ hi
      rw [enc_obj h8] at hp0
      have hjn : j < fN t' := by rw [← hn]; exact hj
      refine va_get (C := q.1) (T := q.2.1) (N := q.2.2) (ci := t') (v := fV ad σ t' i j) hx hb hts hws hown hK hP q0 hp0 hq j hj hlk (fun _ z => z) (by rw [List.getElem?_map, List.getElem?_range hjn]; rfl) hd ?_
      unfold fV
      cases hf : fp t' j with
      | none =>
        rw [hf] at h
        exact hN _ _ _ h H locs ls hO hr hL (okS_push (v := .inl (σ t' i j)) (hO.2.2 _ _ _) hS')
      | some r =>
        rw [hf] at h
        exact hN _ _ _ h H locs ls hO hr hL (okS_push (v := .inr (.inl (r.1, i + r.2))) (Or.inl (fp_ok xx _ h8 _ hi _ hjn _ hf)) hS')
    · exact h.elim
  case putfield k =>
    split at h
    · rename_i t j z x t' i S' heq
      obtain ⟨rfl, hf, hz, h⟩ := h
      obtain ⟨hx1, hS1⟩ := okS_cons hS
      obtain ⟨hv, hS'⟩ := okS_cons hS1
      obtain ⟨q, hq, rfl, hj, hlk⟩ := hF _ _ _ _ heq
      obtain ⟨hn, h8, hws, hnm, ty, hty, hfi⟩ := cls_ok _ _ hq
      have hi := refN hv (by omega)
      obtain ⟨q0, hc0, hp0⟩ := pool_at cy ad σ hi
      rw [enc_obj h8] at hp0
      have hjn : j < fN t' := by rw [← hn]; exact hj
      have hnf : narrow (ty j) (.int (Int32.ofInt x)) = .int (Int32.ofInt x) ∧ fits (ty j) (.int (Int32.ofInt x)) = true := by
        rw [(hfi j hj hf).2]
        cases hzz : isZ t' j with
        | false => exact ⟨rfl, rfl⟩
        | true => rcases hz hzz with rfl | rfl <;> exact ⟨rfl, rfl⟩
      refine va_put (C := q.1) (T := q.2.1) (N := q.2.2) (ci := t') (v := .int (Int32.ofInt x)) (ty := ty j) hx hb hts hws ty hty hnm hown hK hP hD hSS q0 hp0 hq j hj hlk (fun _ z => z) (hfi j hj hf).1 (hty j hj) hnf.1 hnf.2 (by simpa using hjn) hd (fun H1 locs1 hP1 hD1 hS2 => ?_)
      exact hN _ _ _ h H1 locs1 ls (ok_up hO hx1 hc0 (up_obj h8 hf) hP1 hS2) hr hL hS'
    · exact h.elim
  case iaload =>
    split at h
    · rename_i x t i S'
      obtain ⟨hx1, hS1⟩ := okS_cons hS
      obtain ⟨hv, hS'⟩ := okS_cons hS1
      split at h
      · rename_i n hk
        obtain ⟨h1, h2⟩ := h
        obtain ⟨q0, hc0, hp0⟩ := pool_at cy ad σ (refN hv (ak56 hk))
        rw [enc_arr hk (by omega)] at hp0
        have q := va_iald (ls := ls) (rest := S'.map (vV ad)) hx hb hK hP q0 0 hp0 rfl (vp_inA hk hv h1) hd (Q := Q) (cells := cells) (slots := slots) (locs := locs) (l := l) (e := e) (R := R) (below := below) (meth := meth) (m := m) (args := args)
        rw [clA hk hv h1, Int.toNat_of_nonneg h1.1] at q
        exact q (hN _ _ _ h2 H locs ls hO hr hL (okS_push (v := .inl (σ t i x)) (hO.2.2 _ _ _) hS'))
      · exact h.elim
      · obtain ⟨rfl, hz, h1, h2⟩ := h
        obtain ⟨hX, hbl, hbA, hsm, hxr⟩ := hSc hz
        have hi0 := ref56 hv rfl
        subst hi0
        have q := va_sld (ls := ls) (rest := S'.map (vV ad)) hx hb hX hbl hbA hSS (vp_inO h1.1 h1.2 hsm) hd (Q := Q) (cells := cells) (slots := slots) (l := l) (e := e) (R := R) (below := below) (meth := meth) (m := m) (args := args)
        rw [oClamp h1.1 (by omega), Int.toNat_of_nonneg h1.1] at q
        exact q (hN _ _ _ h2 H locs ls hO hr hL (okS_push (v := .inl (M.2.2.2.2.2.2 x)) (hxr _) hS'))
    · exact h.elim
  case caload =>
    split at h
    · rename_i x t i S'
      obtain ⟨hx1, hS1⟩ := okS_cons hS
      obtain ⟨hv, hS'⟩ := okS_cons hS1
      split at h
      · rename_i n hk
        obtain ⟨h1, h2⟩ := h
        obtain ⟨q0, hc0, hp0⟩ := pool_at cy ad σ (refN hv (ak56 hk))
        rw [enc_arr hk (by omega)] at hp0
        have q := va_cald (ls := ls) (rest := S'.map (vV ad)) hx hb hK hP q0 1 hp0 rfl (vp_inA hk hv h1) hd (Q := Q) (cells := cells) (slots := slots) (locs := locs) (l := l) (e := e) (R := R) (below := below) (meth := meth) (m := m) (args := args)
        rw [clA hk hv h1, Int.toNat_of_nonneg h1.1] at q
        exact q (hN _ _ _ h2 H locs ls hO hr hL (okS_push (v := .inl (σ t i x)) (hO.2.2 _ _ _) hS'))
      · exact h.elim
    · exact h.elim
  case baload =>
    split at h
    · rename_i x t i S'
      obtain ⟨hx1, hS1⟩ := okS_cons hS
      obtain ⟨hv, hS'⟩ := okS_cons hS1
      split at h
      · rename_i n hk
        obtain ⟨h1, h2⟩ := h
        obtain ⟨q0, hc0, hp0⟩ := pool_at cy ad σ (refN hv (ak56 hk))
        rw [enc_arr hk (by omega)] at hp0
        have q := va_zald (ls := ls) (rest := S'.map (vV ad)) hx hb hK hP q0 2 hp0 rfl (vp_inA hk hv h1) hd (Q := Q) (cells := cells) (slots := slots) (locs := locs) (l := l) (e := e) (R := R) (below := below) (meth := meth) (m := m) (args := args)
        rw [clA hk hv h1, Int.toNat_of_nonneg h1.1] at q
        exact q (hN _ _ _ h2 H locs ls hO hr hL (okS_push (v := .inl (σ t i x)) (hO.2.2 _ _ _) hS'))
      · exact h.elim
    · exact h.elim
  case iastore =>
    split at h
    · rename_i v x t i S'
      obtain ⟨hvv, hS0⟩ := okS_cons hS
      obtain ⟨hx1, hS1⟩ := okS_cons hS0
      obtain ⟨hv, hS'⟩ := okS_cons hS1
      split at h
      · rename_i n hk
        obtain ⟨h1, h2⟩ := h
        obtain ⟨q0, hc0, hp0⟩ := pool_at cy ad σ (refN hv (ak56 hk))
        rw [enc_arr hk (by omega)] at hp0
        refine va_iast hx hb hK hP hD hSS q0 0 hp0 rfl (vp_inA hk hv h1) hd (fun H1 locs1 hP1 hD1 hS2 => ?_)
        rw [clA hk hv h1] at hP1
        exact hN _ _ _ h2 H1 locs1 ls (ok_up hO hvv hc0 (up_arr hk (by omega) h1.1) hP1 hS2) hr hL hS'
      · exact h.elim
    · exact h.elim
  case castore =>
    split at h
    · rename_i v x t i S'
      obtain ⟨hvv, hS0⟩ := okS_cons hS
      obtain ⟨hx1, hS1⟩ := okS_cons hS0
      obtain ⟨hv, hS'⟩ := okS_cons hS1
      split at h
      · rename_i n hk
        obtain ⟨h1, hz, h2⟩ := h
        obtain ⟨q0, hc0, hp0⟩ := pool_at cy ad σ (refN hv (ak56 hk))
        rw [enc_arr hk (by omega)] at hp0
        refine va_cast hx hb hK hP hD hSS q0 1 hp0 rfl (vp_inA hk hv h1) hd (fun H1 locs1 hP1 hD1 hS2 => ?_)
        rw [clA hk hv h1] at hP1
        rw [narC hz] at hP1
        exact hN _ _ _ h2 H1 locs1 ls (ok_up hO hvv hc0 (up_arr hk (by omega) h1.1) hP1 hS2) hr hL hS'
      · exact h.elim
    · exact h.elim
  case bastore =>
    split at h
    · rename_i v x t i S'
      obtain ⟨hvv, hS0⟩ := okS_cons hS
      obtain ⟨hx1, hS1⟩ := okS_cons hS0
      obtain ⟨hv, hS'⟩ := okS_cons hS1
      split at h
      · rename_i n hk
        obtain ⟨h1, hz, h2⟩ := h
        obtain ⟨q0, hc0, hp0⟩ := pool_at cy ad σ (refN hv (ak56 hk))
        rw [enc_arr hk (by omega)] at hp0
        refine va_zast hx hb hK hP hD hSS q0 2 hp0 rfl (vp_inA hk hv h1) hd (fun H1 locs1 hP1 hD1 hS2 => ?_)
        rw [clA hk hv h1] at hP1
        rw [narZ hz] at hP1
        exact hN _ _ _ h2 H1 locs1 ls (ok_up hO hvv hc0 (up_arr hk (by omega) h1.1) hP1 hS2) hr hL hS'
      · exact h.elim
    · exact h.elim
  case aaload =>
    split at h
    · rename_i x t i S'
      obtain ⟨hx1, hS1⟩ := okS_cons hS
      obtain ⟨hv, hS'⟩ := okS_cons hS1
      split at h
      · rename_i n hk
        obtain ⟨h1, h2⟩ := h
        have hi := refN hv (ak56 hk)
        obtain ⟨q0, hc0, hp0⟩ := pool_at cy ad σ hi
        rw [enc_ref hk (by omega)] at hp0
        have q := va_aldq (C := "BottleneckShop$State") (ls := ls) (rest := S'.map (vV ad)) hx hb hK hP q0 3 hp0 rfl (vp_inA hk hv h1) hd (Q := Q) (cells := cells) (slots := slots) (locs := locs) (l := l) (e := e) (R := R) (below := below) (meth := meth) (m := m) (args := args)
        rw [clA hk hv h1] at q
        exact q (hN _ _ _ h2 H locs ls hO hr hL (okS_push (v := .inr (.inl (el t i x.toNat))) (Or.inl (el_ok hk (by omega) hi (by omega))) hS'))
      · rename_i n hk
        obtain ⟨h1, h2⟩ := h
        have hi := refN hv (ak56 hk)
        obtain ⟨q0, hc0, hp0⟩ := pool_at cy ad σ hi
        rw [enc_ref hk (by omega)] at hp0
        have q := va_aldqA (ls := ls) (rest := S'.map (vV ad)) hx hb hK hP q0 4 hp0 rfl (vp_inA hk hv h1) hd (Q := Q) (cells := cells) (slots := slots) (locs := locs) (l := l) (e := e) (R := R) (below := below) (meth := meth) (m := m) (args := args)
        rw [clA hk hv h1] at q
        exact q (hN _ _ _ h2 H locs ls hO hr hL (okS_push (v := .inr (.inl (el t i x.toNat))) (Or.inl (el_ok hk (by omega) hi (by omega))) hS'))
      · exact h.elim
    · exact h.elim
  case arraylength =>
    split at h
    · rename_i t i S'
      obtain ⟨hv, hS'⟩ := okS_cons hS
      split at h
      · rename_i n hk
        have hn := ak_sm hk hv
        obtain ⟨q0, hc0, hp0⟩ := pool_at cy ad σ (refN hv (ak56 hk))
        rw [enc_arr hk (by omega)] at hp0
        exact va_alen hx hb hK hP q0 0 hp0 rfl rfl hd (hN _ _ _ h H locs ls hO hr hL (okS_push (v := .inl (n : Int)) (by show inR _; constructor <;> omega) hS'))
      · exact h.elim
      · obtain ⟨rfl, hz, h2⟩ := h
        obtain ⟨hX, hbl, hbA, hsm, hxr⟩ := hSc hz
        have hi0 := ref56 hv rfl
        subst hi0
        exact va_slen hx hb hX hbl hbA hSS hd (hN _ _ _ h2 H locs ls hO hr hL (okS_push (v := .inl (M.2.2.2.2.2.1 : Int)) (by show inR _; constructor <;> omega) hS'))
    · exact h.elim
  case invokevirtual k =>
    split at h
    · rename_i _ n ci T heq
      obtain ⟨hci, h1, h2, h0, h3⟩ := h
      have e0 : S = (S.take n).reverse.reverse ++ S.drop n := by rw [List.reverse_reverse, List.take_append_drop]
      have hT : okS xx (S.take n).reverse := fun v hv => hS v (List.mem_of_mem_take (List.mem_reverse.mp hv))
      have hR' : okS xx (S.drop n) := fun v hv => hS v (List.mem_of_mem_drop hv)
      rw [show S.map (vV ad) = ((S.take n).reverse.reverse ++ S.drop n).map (vV ad) by rw [← e0]]
      refine (hCR _ _ _ _ heq).1 hci pc H locs ls σ (S.take n).reverse (S.drop n) _ hd hO hr.2.2.1 (by rw [List.length_reverse, List.length_take]; omega) hT h0 h3 (by rw [List.length_drop]; omega) (fun r σ' H' locs' hO' hr' hk => ?_)
      have q := hN _ _ _ hk H' locs' ls hO' hr hL (by
        intro v hv
        rcases List.mem_append.mp hv with hv | hv
        · cases r with
          | none => cases hv
          | some x =>
            rw [List.mem_singleton.mp hv]
            exact hr' x rfl
        · exact hR' v hv)
      cases r <;> exact q
    · exact h.elim
  case invokestatic k =>
    split at h
    · rename_i _ n ci T heq
      obtain ⟨hci, h1, h2, h3⟩ := h
      have h0 : True := trivial
      have e0 : S = (S.take n).reverse.reverse ++ S.drop n := by rw [List.reverse_reverse, List.take_append_drop]
      have hT : okS xx (S.take n).reverse := fun v hv => hS v (List.mem_of_mem_take (List.mem_reverse.mp hv))
      have hR' : okS xx (S.drop n) := fun v hv => hS v (List.mem_of_mem_drop hv)
      rw [show S.map (vV ad) = ((S.take n).reverse.reverse ++ S.drop n).map (vV ad) by rw [← e0]]
      refine (hCR _ _ _ _ heq).2 hci pc H locs ls σ (S.take n).reverse (S.drop n) _ hd hO hr.2.2.1 (by rw [List.length_reverse, List.length_take]; omega) hT h0 h3 (by rw [List.length_drop]; omega) (fun r σ' H' locs' hO' hr' hk => ?_)
      have q := hN _ _ _ hk H' locs' ls hO' hr hL (by
        intro v hv
        rcases List.mem_append.mp hv with hv | hv
        · cases r with
          | none => cases hv
          | some x =>
            rw [List.mem_singleton.mp hv]
            exact hr' x rfl
        · exact hR' v hv)
      cases r <;> exact q
    · exact h.elim
  case ireturn =>
    split at h
    · rename_i x
      exact hRI x pc H locs ls σ hd hO (okS_cons hS).1 h
    · exact h.elim
  case return_ =>
    split at h
    · exact hRV pc H locs ls σ hd hO h
    · exact h.elim
end
