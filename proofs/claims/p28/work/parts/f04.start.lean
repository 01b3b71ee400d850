/-! from the constructor to the pool; the start of the law -/
section
variable {D : va_G} {cy : Nat → ClassId} {A : Nat → Prop} {H : Heap}
/-- the constructor's cells, and the script's: the pool -/
theorem ky_pool {a6 : Nat → Nat → Nat} {b : Nat} (hP : va_P D classes (kyW cy a6 kkX6) H) (hD : va_D A (kyW cy a6 kkX6)) : ∃ ad : Nat → Nat → Nat, ad 56 0 = b ∧ ad 6 0 = a6 6 0 ∧ va_P D classes (pool false cy ad (fun _ _ _ => 0)) H ∧ va_D A (pool false cy ad (fun _ _ _ => 0)) := by
  obtain ⟨ad, had⟩ : ∃ ad : Nat → Nat → Nat, ad = fun t i => if t = 56 then b else a6 t i := ⟨_, rfl⟩
  have h56 : ∀ c ∈ kkX6, c.1 ≠ 56 := by decide +kernel
  have ht : ∀ t i : Nat, t ≠ 56 → a6 t i = ad t i := fun t i h => by rw [had]; exact (if_neg h).symm
  have hg : ∀ c ∈ kkX6, a6 c.1 c.2 = ad c.1 c.2 := fun c hc => ht _ _ (h56 c hc)
  have hcs : ∀ c ∈ cs false, c ∈ kkX6 := by decide +kernel
  have hP : va_P D classes (kyW cy ad kkX6) H := ky_P hg (by decide +kernel) hP
  have hD : va_D A (kyW cy ad kkX6) := ky_D hD (ky_fst hg).symm
  exact ⟨ad, by rw [had]; exact if_pos rfl, (ht 6 0 (by decide)).symm, ky_sub hcs hP, ky_subD hcs (cs_nodup false) hD⟩
end
/-! THE CLAIM OUT OF ONE WALK OF THE LAW'S BODY. Your part is whole_start (and what it stands on); all else here is the same for every law, but numbers. -/
def R_law : String := "BottleneckShopLaw"
def lw_P (b : Addr) (xs : List Int32) (args : Array Value) (s : State) : Prop := args = #[.ref b] ∧ s.IntsAt b xs ∧ xs.length ≤ 260 ∧ (Jvm.Cond.and given_1 narrow_1).before args s = true
def lw_Q (_ : Array Value) (s : State) (o : Outcome) (t : State) : Prop := o = .returned (some (.int 1)) ∧ Framed s o t [] 600000 7302250
def lw_Z (below : List Frame) (a : Array Value) (s : State) : State → Prop := fun t => ∃ o, t.status = .running ∧ Ended t below o ∧ lw_Q a s o t
/-- the law's own end, with 1 on the stack, nothing written that was there before, its room as the claim has it -/
theorem lw_ret {p : Program} {l : Launch} {e : Env} {s : State} {m : MethodId} {below : List Frame} {meth : Method} {c : Code} {b : Nat} (hx : p.tables.exec = Jvm.exec) (hb : c.code = code) (hr : meth.sig.returnType = ret) (hlocks : meth.locks = false) {pc : Nat} {H : Heap} {ls : Array Slot} (hdg : decode code pc = .ok (.ireturn, 1)) : W p l e room_1 s m #[Value.ref b] below meth c H [] 600000 7302250 (lw_Z below #[Value.ref b] s) (F0 m pc ls [.int 1]) := by
  intro T hT X
  obtain ⟨fs, hret, hrun, hended, hW, hframe⟩ := X.leave (v := some (.int 1)) (hlocks := hlocks) (fun h => by rw [hr] at h; cases h)
  have hmeth' : T.vm.method? m = some meth := X.method'
  refine ⟨T.setFrames fs, ?_, .returned (some (.int 1)), hrun, hended, rfl, ⟨_, rfl⟩, hW, hframe⟩
  jvm_step X.here [X.here.top, hx, hb, hdg, hmeth', hr, ret, narrow_b1]
  (try refine ⟨rfl, ?_⟩); (try refine ⟨rfl, ?_⟩)
  first | (intro acts; rw [hret _ acts rfl rfl rfl]) | rw [hret _ _ rfl rfl rfl]
  exact Steps.refl _
/-- what holds at the law's entry: the machine, the code, the tables' words (any of lw_tbl by 'hts w (by decide +kernel)'), the script of L ints xs at the cell b, what the Statement gives of the start (any of its parts by flat_of_before) -/
def lw_At (p : Program) (s : State) (m : MethodId) (meth : Method) (c : Code) (b L : Nat) (xs : Nat → Int32) : Prop :=
  p.tables.exec = Jvm.exec ∧ c.code = code ∧ meth.sig.returnType = ret ∧ c.maxLocals = 11 ∧ s.vm.findClass R_law = some m.cls ∧ (∀ w ∈ lw_tbl, w.before #[Value.ref b] s = true) ∧ va_X b L xs s s.heap ∧ b < s.heap.size ∧ meth.locks = false ∧ (Jvm.Cond.and given_1 narrow_1).before #[Value.ref b] s = true
set_option maxHeartbeats 40000000 in
set_option maxRecDepth 100000 in
theorem whole_start {p : Program} {e : Env} {s : State} {m : MethodId} {below : List Frame} {meth : Method} {c : Code} (l : Launch) (hflags : l.flags = flags0) {b L : Nat} {xs : Nat → Int32} (hL : L ≤ 260) (C0 : lw_At p s m meth c b L xs) : W p l e room_1 s m #[Value.ref b] below meth c s.heap [] 0 0 (lw_Z below #[Value.ref b] s) (entryFrame m ([Value.ref b] : List Value).toArray 11) := by
  obtain ⟨hx, hb, hr, hml, hown, hts1, hX, hbl, hlocks, hgv⟩ := id C0
  have hb : c.code = cL_law := hb
  have hown : s.vm.findClass RL = some m.cls := hown
  have hts : ∀ w ∈ lw_g, w.before #[Value.ref b] s = true := fun w hw => hts1 w (List.mem_filter.mp hw).1
  have hNw : ∀ w ∈ nw, va_Nw w s := nw_of hts1
  have hAO : va_AO RX5 s := va_AO.of (hts1 (Cond.arrayOver (.object RX5)) (wt 104 (by decide +kernel)))
  have hAM : kyAM s := (hts1 (Cond.arrayOver (.array .int)) (wt 221 (by decide +kernel)) : (Cond.arrayOver (.array .int)).before #[Value.ref b] s = true)
  have hA : ∀ q : Nat, s.heap.size ≤ q → (fun q : Nat => s.heap.size ≤ q) q := fun _ h => h
  obtain ⟨y0, hy0⟩ := ky_arrC (ty := .int) (fun C h => by cases h) (hts1 _ (wt 96 (by decide +kernel)))
  obtain ⟨y1, hy1⟩ := ky_arrC (ty := .char) (fun C h => by cases h) (hts1 _ (wt 138 (by decide +kernel)))
  obtain ⟨y2, hy2⟩ := ky_arrC (ty := .boolean) (fun C h => by cases h) (hts1 _ (wt 137 (by decide +kernel)))
  obtain ⟨y3, hy3⟩ := ky_arrO (C := RX5) (hts1 _ (wt 104 (by decide +kernel)))
  obtain ⟨y4, hy4⟩ := ky_arrA (ty := .int) (hts1 _ (wt 221 (by decide +kernel)))
  obtain ⟨d0, iS0, hKn0⟩ := u_known (C := RX0) (T := TX0) (N := 3) (n := 3) hts wsIn0 (hts1 _ (wt 98 (by decide +kernel)))
  obtain ⟨d1, iS1, hKn1⟩ := u_known (C := RX1) (T := TX1) (N := 15) (n := 15) hts wsIn1 (hts1 _ (wt 140 (by decide +kernel)))
  obtain ⟨d2, iS2, hKn2⟩ := u_known (C := RX2) (T := TX2) (N := 4) (n := 4) hts wsIn2 (hts1 _ (wt 118 (by decide +kernel)))
  obtain ⟨d3, iS3, hKn3⟩ := u_known (C := RX3) (T := TX3) (N := 2) (n := 2) hts wsIn3 (hts1 _ (wt 198 (by decide +kernel)))
  obtain ⟨d4, iS4, hKn4⟩ := u_known (C := RX4) (T := TX4) (N := 8) (n := 8) hts wsIn4 (hts1 _ (wt 213 (by decide +kernel)))
  obtain ⟨d5, iS5, hKn5⟩ := u_known (C := RX5) (T := TX5) (N := 8) (n := 8) hts wsIn5 (hts1 _ (wt 49 (by decide +kernel)))
  obtain ⟨d6, iS6, hKn6⟩ := u_known (C := RX6) (T := TX6) (N := 16) (n := 16) hts wsIn6 (hts1 _ (wt 41 (by decide +kernel)))
  obtain ⟨D, hKc⟩ : ∃ D : va_G, ∀ (k : Nat) (q : vw_C), classes[k]? = some q → u_Kn s q.1 q.2.1 q.2.2 (D.1 k) (D.2 k) := by
    refine ⟨(fun k => match k with | 0 => d0 | 1 => d1 | 2 => d2 | 3 => d3 | 4 => d4 | 5 => d5 | _ => d6, fun k => match k with | 0 => iS0 | 1 => iS1 | 2 => iS2 | 3 => iS3 | 4 => iS4 | 5 => iS5 | _ => iS6), ?_⟩
    intro k q hq
    match k, hq with
    | 0, hq => cases hq; exact hKn0
    | 1, hq => cases hq; exact hKn1
    | 2, hq => cases hq; exact hKn2
    | 3, hq => cases hq; exact hKn3
    | 4, hq => cases hq; exact hKn4
    | 5, hq => cases hq; exact hKn5
    | 6, hq => cases hq; exact hKn6
    | k + 7, hq => cases hq
  obtain ⟨cy, hcy⟩ : ∃ cy : Nat → ClassId, ∀ (k : Nat) (q : ClassId × FieldType), (tysL cy)[k]? = some q → ArrOfT s q.1 q.2 ∧ va_RA s q.1 q.2 := by
    refine ⟨fun k => match k with | 0 => y0 | 1 => y1 | 2 => y2 | 3 => y3 | _ => y4, ?_⟩
    intro k q hq
    match k, hq with
    | 0, hq => cases hq; exact hy0
    | 1, hq => cases hq; exact hy1
    | 2, hq => cases hq; exact hy2
    | 3, hq => cases hq; exact hy3
    | 4, hq => cases hq; exact hy4
    | k + 5, hq => cases hq
  have hK : va_K D classes (tysL cy) s := ⟨hKc, hcy⟩
  have hS : va_S (fun q : Nat => s.heap.size ≤ q) s.heap s.heap [] := va_S.rf
  have hP : va_P D classes [] s.heap := fun k q h => by simp at h
  have hD : va_D (fun q : Nat => s.heap.size ≤ q) [] := ⟨fun i j p q h => by simp at h, fun k q h => by simp at h⟩
  have hl := lv_entry ([.ref b]) (n := 11) (Nat.le_of_ble_eq_true rfl)
  rw [lg_entry_eq]
  generalize (lg_sl ([.ref b]) ++ List.replicate (11 - (lg_sl ([.ref b])).length) Slot.unset).toArray = ls at hl ⊢
  have hl : lv_has ls 11 [(0, .ref b)] := hl
  refine va_new (ci := 6) (fs := [.null, .null, .null, .null, .null, .null, .null, .null, .int 0, .int 0, .null, .null, .null, .int 0, .int 0, .int 0]) (C := RX6) (T := TX6) (N := 16) hx hb hts wsIn6 tyX6 tyX6_ok hown (hts _ (mg 40 (by decide +kernel) rfl)) (hts _ (mg 41 (by decide +kernel) rfl)) (hts _ inRX6) hK hP hD hS hA rfl (fun j hj => by rcases (show j = 0 ∨ j = 1 ∨ j = 2 ∨ j = 3 ∨ j = 4 ∨ j = 5 ∨ j = 6 ∨ j = 7 ∨ j = 8 ∨ j = 9 ∨ j = 10 ∨ j = 11 ∨ j = 12 ∨ j = 13 ∨ j = 14 ∨ j = 15 by omega) with rfl | rfl | rfl | rfl | rfl | rfl | rfl | rfl | rfl | rfl | rfl | rfl | rfl | rfl | rfl | rfl <;> rfl) (Nat.le_of_ble_eq_true rfl) (Nat.le_of_ble_eq_true rfl) (by decide +kernel : decode cL_law 0 = .ok (.new 9, 3)) (fun h6 H hP hD hS => ?_)
  have hP : va_P D classes [(h6, .inr (6, [.null, .null, .null, .null, .null, .null, .null, .null, .int 0, .int 0, .null, .null, .null, .int 0, .int 0, .int 0]))] H := hP
  have hD : va_D (fun q : Nat => s.heap.size ≤ q) [(h6, .inr (6, [.null, .null, .null, .null, .null, .null, .null, .null, .int 0, .int 0, .null, .null, .null, .int 0, .int 0, .int 0]))] := hD
  refine lv_dup hx hb (by decide +kernel : decode cL_law 3 = .ok (.dup, 1)) rfl ?_
  have hPc := hP.sub (ws' := [(h6, .inr (6, [.null, .null, .null, .null, .null, .null, .null, .null, .int 0, .int 0, .null, .null, .null, .int 0, .int 0, .int 0]))]) [0] rfl
  have hDc := hD.sub (ws' := [(h6, .inr (6, [.null, .null, .null, .null, .null, .null, .null, .null, .int 0, .int 0, .null, .null, .null, .int 0, .int 0, .int 0]))]) [0] (by decide) rfl
  have hFc := va_free (wc := [(h6, .inr (6, [.null, .null, .null, .null, .null, .null, .null, .null, .int 0, .int 0, .null, .null, .null, .int 0, .int 0, .int 0]))]) hD hS hA [0] rfl
  refine va_callv (va_runI (As := []) (rest := [.ref h6]) ⟨hx, hb, hml, hown, hts⟩ (c_X6_init l D cy h6 H.size) (cwI 0 hts (good_sub (fun w hw => (List.mem_cons.mp hw).elim (fun h => by rw [h]; exact mg 44 rfl rfl) (fun h => h))) rfl rfl rfl (hts _ inRX6) (hts _ KRL_11) (hts _ (mg 43 (by decide +kernel) rfl)) rfl (by decide +kernel) ⟨(Nat.le_of_ble_eq_true rfl), (Nat.le_of_ble_eq_true rfl)⟩) ⟨fun a U g mk q => by obtain ⟨q0, q1, qP, qK, qD, qN, qA, qO⟩ := q; exact ⟨q0, q1, qP, va_K.moved (u := U) (U := U.calling g mk a) (Vm.Alike.refl U.vm) qK, qD, nw_same (u := U) rfl qN, kyAM.moved (u := U) (U := U.calling g mk a) (Vm.Alike.refl U.vm) qA, va_AO.moved (u := U) (U := U.calling g mk a) (Vm.Alike.refl U.vm) qO⟩, fun U hU hW => ⟨rfl, by rw [hU], by rw [hU]; exact hPc, va_K.moved hW.alike hK, hDc.weaken (fun _ _ _ _ => trivial), nw_warm hW hNw, kyAM.moved hW.alike hAM, va_AO.moved hW.alike hAO⟩⟩ rfl rfl hl.1 rfl (lv_room (Nat.le_of_ble_eq_true rfl)) (by decide +kernel : decode cL_law 4 = .ok (.invokespecial 11, 3)) ⟨(Nat.le_of_ble_eq_true rfl), (Nat.le_of_ble_eq_true rfl)⟩) hS (fun q _ h => hFc q h) hFc (fun u t H1 locs ht hvm hw hB hz1 hk1 hS => ?_)
  obtain ⟨a6, f6, hP1, hD1⟩ := hB
  rw [ht] at hP1
  obtain ⟨hP, hD⟩ := va_join (wr := []) (w1 := kyW cy a6 kkX6) hP hD [0] [] rfl rfl (by decide) (by decide) hk1 hFc hP1 hD1
  generalize H1 = H at hP hS ⊢
  refine lv_astore_n (lv' := [(1, .ref h6), (0, .ref b)]) hx hb (by decide +kernel : decode cL_law 7 = .ok (.astore_n 1, 1)) rfl hl (by decide) rfl (fun ls hl => ?_)
  obtain ⟨ad, g56, g6, hP, hD⟩ := ky_pool (b := b) hP hD
  have f6 := g6.trans f6
  have hDA : ∀ σ, va_D (fun q : Nat => s.heap.size ≤ q) (pool false cy ad σ) := pool_D hD
  refine law_tail (l := l) (D := D) (cy := cy) (ad := ad) (A := fun q : Nat => s.heap.size ≤ q) hx hb hml hown hts hK hDA (hD.weaken (fun _ _ _ _ => trivial)) hNw (fun q hq => ?_) hA (Nat.le_of_ble_eq_true rfl) (Nat.le_of_ble_eq_true rfl) (Nat.le_of_ble_eq_true rfl) (Nat.le_of_ble_eq_true rfl) L xs (Nat.lt_of_le_of_lt hL (Nat.le_of_ble_eq_true rfl)) (by rw [g56]; exact hX) (by rw [g56]; exact hbl) (by rw [g56]; exact Nat.not_le.mpr hbl) (fun c' s' hc' hs' pc H' locs' ls' σ hdg hO => ?_) ⟨hP, hS, fun _ _ _ => (⟨by decide, by decide⟩ : inR 0)⟩ ⟨rfl, hl.2.1, hl.1, fun i v hv => ?_⟩
  · obtain ⟨t, i, hi, rfl⟩ := hq
    obtain ⟨k, -, hk⟩ := pool_at cy ad (fun _ _ _ => 0) hi
    exact hD.2 k _ hk
  · exact va_forget (fun q hq => hO.2.1.2.2 q hq) (W.widen (Nat.le_trans hc' (Nat.le_of_ble_eq_true rfl)) (Nat.le_trans hs' (Nat.le_of_ble_eq_true rfl)) (lw_ret hx hb hr hlocks hdg))
  · match i, hv with
    | 0, hv => cases hv; show ls[0]? = some (.val (.ref (ad 56 0))); rw [g56]; exact hl.2.2 (0, .ref b) (by simp)
    | 1, hv => cases hv; show ls[1]? = some (.val (.ref (ad 6 0))); rw [f6]; exact hl.2.2 (1, .ref h6) (by simp)
    | 2, hv => cases hv
    | 3, hv => cases hv
    | 4, hv => cases hv
    | 5, hv => cases hv
    | 6, hv => cases hv
    | 7, hv => cases hv
    | 8, hv => cases hv
    | 9, hv => cases hv
    | 10, hv => cases hv
    | i + 11, hv => cases hv
