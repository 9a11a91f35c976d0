/-! THE CLAIM OUT OF ONE WALK OF THE LAW'S BODY. Your part is whole_start (and what it stands on); all else here is the same for every law, but numbers. -/
def R_law : String := "RowImproverLaw"
def lw_P (b : Addr) (xs : List Int32) (args : Array Value) (s : State) : Prop := args = #[.ref b] ∧ s.IntsAt b xs ∧ xs.length ≤ 3072 ∧ (Jvm.Cond.and given_1 narrow_1).before args s = true
def lw_Q (_ : Array Value) (s : State) (o : Outcome) (t : State) : Prop := o = .returned (some (.int 1)) ∧ Framed s o t [] 1074 8598
def lw_Z (below : List Frame) (a : Array Value) (s : State) : State → Prop := fun t => ∃ o, t.status = .running ∧ Ended t below o ∧ lw_Q a s o t
/-- the law's own end, with 1 on the stack, nothing written that was there before, its room as the claim has it -/
theorem lw_ret {p : Program} {l : Launch} {e : Env} {s : State} {m : MethodId} {below : List Frame} {meth : Method} {c : Code} {b : Nat} (hx : p.tables.exec = Jvm.exec) (hb : c.code = code) (hr : meth.sig.returnType = ret) (hlocks : meth.locks = false) {pc : Nat} {H : Heap} {ls : Array Slot} (hdg : decode code pc = .ok (.ireturn, 1)) : W p l e room_1 s m #[Value.ref b] below meth c H [] 1074 8598 (lw_Z below #[Value.ref b] s) (F0 m pc ls [.int 1]) := by
  intro T hT X
  obtain ⟨fs, hret, hrun, hended, hW, hframe⟩ := X.leave (v := some (.int 1)) (hlocks := hlocks) (fun h => by rw [hr] at h; cases h)
  have hmeth' : T.vm.method? m = some meth := X.method'
  refine ⟨T.setFrames fs, ?_, .returned (some (.int 1)), hrun, hended, rfl, ⟨_, rfl⟩, hW, hframe⟩
  jvm_step X.here [X.here.top, hx, hb, hdg, hmeth', hr, ret, narrow_b1]
  (try refine ⟨rfl, ?_⟩); (try refine ⟨rfl, ?_⟩)
  first | (intro acts; rw [hret _ acts rfl rfl rfl]) | rw [hret _ _ rfl rfl rfl]
  exact Steps.refl _
/-- what holds at the law's entry: the machine, the code, the tables' words (any of lw_tbl by 'hts w (by decide +kernel)'), the script of L ints xs at the cell b, what the Statement gives of the start (any of its parts by flat_of_before) -/
def lw_At (p : Program) (s : State) (m : MethodId) (meth : Method) (c : Code) (b L : Nat) (xs : Nat → Int32) : Prop :=
  p.tables.exec = Jvm.exec ∧ c.code = code ∧ meth.sig.returnType = ret ∧ c.maxLocals = 7 ∧ s.vm.findClass R_law = some m.cls ∧ (∀ w ∈ lw_tbl, w.before #[Value.ref b] s = true) ∧ va_X b L xs s s.heap ∧ b < s.heap.size ∧ meth.locks = false ∧ (Jvm.Cond.and given_1 narrow_1).before #[Value.ref b] s = true ∧ c.exceptionTable.toList = []
theorem rk_dL_0 : decode code 0 = .ok (.new 8, 3) := by decide +kernel
theorem rk_dL_3 : decode code 3 = .ok (.dup, 1) := by decide +kernel
theorem rk_dL_4 : decode code 4 = .ok (.invokespecial 47, 3) := by decide +kernel
theorem rk_dL_7 : decode code 7 = .ok (.astore_n 1, 1) := by decide +kernel
theorem rk_dL_8 : decode code 8 = .ok (.new 48, 3) := by decide +kernel
theorem rk_dL_11 : decode code 11 = .ok (.dup, 1) := by decide +kernel
theorem rk_dL_12 : decode code 12 = .ok (.invokespecial 50, 3) := by decide +kernel
theorem rk_dL_15 : decode code 15 = .ok (.astore_n 2, 1) := by decide +kernel
theorem rk_dL_16 : decode code 16 = .ok (.iconst 1, 1) := by decide +kernel
theorem rk_dL_17 : decode code 17 = .ok (.newarray .long, 2) := by decide +kernel
theorem rk_dL_19 : decode code 19 = .ok (.astore_n 3, 1) := by decide +kernel
theorem rk_dL_20 : decode code 20 = .ok (.iconst 0, 1) := by decide +kernel
theorem rk_dL_21 : decode code 21 = .ok (.istore 4, 2) := by decide +kernel
set_option maxHeartbeats 4000000 in
set_option maxRecDepth 100000 in
theorem whole_start {p : Program} {e : Env} {s : State} {m : MethodId} {below : List Frame} {meth : Method} {c : Code} (l : Launch) (hl : l.stackTraces = false) {b L : Nat} {xs : Nat → Int32} (hL : L ≤ 3072) (C0 : lw_At p s m meth c b L xs) : W p l e room_1 s m #[Value.ref b] below meth c s.heap [] 0 0 (lw_Z below #[Value.ref b] s) (entryFrame m ([Value.ref b] : List Value).toArray 7) := by
  obtain ⟨hx, hb, hr, hml, hown, hts0, hX, hbl, hlocks, hgv, hex⟩ := C0
  have hts : ∀ w ∈ rz_tw, w.before #[Value.ref b] s = true := fun w hw => hts0 w (List.mem_filter.mp hw).1
  have hN : rz_Nx s := rz_N_start hts0
  obtain ⟨D, cI, cJ, hK⟩ := rz_K_start hts
  obtain ⟨A, hAe⟩ : ∃ A : Nat → Prop, A = fun q => s.heap.size ≤ q := ⟨_, rfl⟩
  have hA : ∀ q : Nat, s.heap.size ≤ q → A q := fun q h => by rw [hAe]; exact h
  have hXX : rz_X A s s.heap := rz_X_start hts0 hgv (fun a ha h => by rw [hAe] at h; exact absurd ha (Nat.not_lt.mpr h))
  have hS : va_S A s.heap s.heap [] := va_S.rf
  have hP : va_P D rz_cl [] s.heap := fun k q h => by simp at h
  have hD : va_D A [] := ⟨fun i j p q h => by simp at h, fun k q h => by simp at h⟩
  have hlv := lv_entry ([.ref b]) (n := 7) (Nat.le_of_ble_eq_true rfl)
  rw [lg_entry_eq]
  generalize (lg_sl ([.ref b]) ++ List.replicate (7 - (lg_sl ([.ref b])).length) Slot.unset).toArray = ls at hlv ⊢
  have hlv : lv_has ls 7 [(0, .ref b)] := hlv
  refine va_new (ci := 0) (fs := [.null, .null, .null, .null, .null]) (C := "RowImprover") (T := rz_F0) (N := 5) hx hb hts (rz_clw_of (ci := 0) rfl) (rz_fty 0) (rz_cty_of (ci := 0) rfl) hown (hts _ (rz_use (List.mem_of_getElem? (i := 48) (by decide +kernel)) rfl)) (hts _ (rz_use (List.mem_of_getElem? (i := 49) (by decide +kernel)) rfl)) (hts _ (rz_use (List.mem_of_getElem? (i := 28) (by decide +kernel)) rfl)) hK hP hD hS hA rfl (rz_df0) (show 0 + 1 ≤ 1074 by decide) (show 0 + 5 ≤ 8598 by decide) rk_dL_0 (fun q1 H hP hD hS => ?_)
  have hP : va_P D rz_cl [(q1, .inr (0, [.null, .null, .null, .null, .null]))] H := hP
  have hD : va_D A [(q1, .inr (0, [.null, .null, .null, .null, .null]))] := hD
  refine W.widen (k := 1) (n := 5) (by omega) (by omega) ?_
  refine lv_dup hx hb rk_dL_3 rfl ?_
  have hPc := hP.sub (ws' := [(q1, .inr (0, [.null, .null, .null, .null, .null]))]) [0] rfl
  have hDc := hD.sub (ws' := [(q1, .inr (0, [.null, .null, .null, .null, .null]))]) [0] (by decide) rfl
  have hFc := va_free (wc := [(q1, .inr (0, [.null, .null, .null, .null, .null]))]) hD hS hA [0] rfl
  refine va_callv (va_runI (As := []) (rest := [.ref q1]) ⟨hx, hb, hml, hown, hts⟩ (k_0 l D cI cJ q1 H.size) (cwI 0 hts (rz_gi (rz_use (List.mem_of_getElem? (i := 52) (by decide +kernel)) rfl)) rfl rfl rfl (hts _ (rz_use (List.mem_of_getElem? (i := 28) (by decide +kernel)) rfl)) (hts _ (rz_use (List.mem_of_getElem? (i := 50) (by decide +kernel)) rfl)) (hts _ (rz_use (List.mem_of_getElem? (i := 51) (by decide +kernel)) rfl)) rfl (by decide +kernel) ⟨Nat.le_of_ble_eq_true rfl, Nat.le_of_ble_eq_true rfl⟩) (rz_pre hPc hK hDc hN) rfl rfl hlv.1 rfl (lv_room (Nat.le_of_ble_eq_true rfl)) rk_dL_4 ⟨(show 1 + 24 ≤ 1074 by decide), (show 5 + 143 ≤ 8598 by decide)⟩) hS (fun q _ h => hFc q h) hFc (fun u t H1 locs ht hvm _ hB hz1 hk1 hS => ?_)
  obtain ⟨q2, q3, q4, q5, q6, q7, q8, q9, q10, q11, q12, q13, q14, q15, q16, q17, q18, q19, q20, q21, q22, q23, q24, q25, hP1, hD1⟩ := hB
  rw [ht] at hP1
  obtain ⟨hP, hD⟩ := va_join (wr := []) (w1 := [(q1, .inr (0, [.ref q2, .ref q4, .ref q7, .ref q9, .ref q14])), (q2, .inr (1, [.ref q3, .int 0])), (q3, .inl (cI, 24, .inl fun _ => 0)), (q4, .inr (2, [.ref q5, .ref q6, .int 0, .int 0, .int 0, .int 0])), (q5, .inl (cI, 8, .inl fun _ => 0)), (q6, .inl (cI, 8, .inl fun _ => 0)), (q7, .inr (3, [.ref q8])), (q8, .inl (cI, 25, .inl fun _ => 0)), (q9, .inr (4, [.ref q10, .ref q12, .int 0])), (q10, .inr (5, [.ref q11, .int 0])), (q11, .inl (cI, 3, .inl fun _ => 0)), (q12, .inr (5, [.ref q13, .int 0])), (q13, .inl (cI, 3, .inl fun _ => 0)), (q14, .inr (6, [.ref q15, .ref q17, .ref q22, .ref q24, .int 0, .int 0, .int 0])), (q15, .inr (3, [.ref q16])), (q16, .inl (cI, 25, .inl fun _ => 0)), (q17, .inr (4, [.ref q18, .ref q20, .int 0])), (q18, .inr (5, [.ref q19, .int 0])), (q19, .inl (cI, 3, .inl fun _ => 0)), (q20, .inr (5, [.ref q21, .int 0])), (q21, .inl (cI, 3, .inl fun _ => 0)), (q22, .inr (5, [.ref q23, .int 0])), (q23, .inl (cI, 3, .inl fun _ => 0)), (q24, .inr (5, [.ref q25, .int 0])), (q25, .inl (cI, 3, .inl fun _ => 0))]) hP hD [0] [] rfl rfl (by decide) (by decide) hk1 hFc hP1 hD1
  generalize H1 = H at hP hS ⊢
  have hP : va_P D rz_cl [(q1, .inr (0, [.ref q2, .ref q4, .ref q7, .ref q9, .ref q14])), (q2, .inr (1, [.ref q3, .int 0])), (q3, .inl (cI, 24, .inl fun _ => 0)), (q4, .inr (2, [.ref q5, .ref q6, .int 0, .int 0, .int 0, .int 0])), (q5, .inl (cI, 8, .inl fun _ => 0)), (q6, .inl (cI, 8, .inl fun _ => 0)), (q7, .inr (3, [.ref q8])), (q8, .inl (cI, 25, .inl fun _ => 0)), (q9, .inr (4, [.ref q10, .ref q12, .int 0])), (q10, .inr (5, [.ref q11, .int 0])), (q11, .inl (cI, 3, .inl fun _ => 0)), (q12, .inr (5, [.ref q13, .int 0])), (q13, .inl (cI, 3, .inl fun _ => 0)), (q14, .inr (6, [.ref q15, .ref q17, .ref q22, .ref q24, .int 0, .int 0, .int 0])), (q15, .inr (3, [.ref q16])), (q16, .inl (cI, 25, .inl fun _ => 0)), (q17, .inr (4, [.ref q18, .ref q20, .int 0])), (q18, .inr (5, [.ref q19, .int 0])), (q19, .inl (cI, 3, .inl fun _ => 0)), (q20, .inr (5, [.ref q21, .int 0])), (q21, .inl (cI, 3, .inl fun _ => 0)), (q22, .inr (5, [.ref q23, .int 0])), (q23, .inl (cI, 3, .inl fun _ => 0)), (q24, .inr (5, [.ref q25, .int 0])), (q25, .inl (cI, 3, .inl fun _ => 0))] H := hP
  have hD : va_D A [(q1, .inr (0, [.ref q2, .ref q4, .ref q7, .ref q9, .ref q14])), (q2, .inr (1, [.ref q3, .int 0])), (q3, .inl (cI, 24, .inl fun _ => 0)), (q4, .inr (2, [.ref q5, .ref q6, .int 0, .int 0, .int 0, .int 0])), (q5, .inl (cI, 8, .inl fun _ => 0)), (q6, .inl (cI, 8, .inl fun _ => 0)), (q7, .inr (3, [.ref q8])), (q8, .inl (cI, 25, .inl fun _ => 0)), (q9, .inr (4, [.ref q10, .ref q12, .int 0])), (q10, .inr (5, [.ref q11, .int 0])), (q11, .inl (cI, 3, .inl fun _ => 0)), (q12, .inr (5, [.ref q13, .int 0])), (q13, .inl (cI, 3, .inl fun _ => 0)), (q14, .inr (6, [.ref q15, .ref q17, .ref q22, .ref q24, .int 0, .int 0, .int 0])), (q15, .inr (3, [.ref q16])), (q16, .inl (cI, 25, .inl fun _ => 0)), (q17, .inr (4, [.ref q18, .ref q20, .int 0])), (q18, .inr (5, [.ref q19, .int 0])), (q19, .inl (cI, 3, .inl fun _ => 0)), (q20, .inr (5, [.ref q21, .int 0])), (q21, .inl (cI, 3, .inl fun _ => 0)), (q22, .inr (5, [.ref q23, .int 0])), (q23, .inl (cI, 3, .inl fun _ => 0)), (q24, .inr (5, [.ref q25, .int 0])), (q25, .inl (cI, 3, .inl fun _ => 0))] := hD
  refine W.widen (k := 25) (n := 148) (by omega) (by omega) ?_
  refine lv_astore_n (lv' := [(1, .ref q1), (0, .ref b)]) hx hb rk_dL_7 rfl hlv (by decide) rfl (fun ls hlv => ?_)
  refine va_new (ci := 7) (fs := [.int 0, .int 0, .null, .null, .null, .null, .null, .null, .int 0, .int 0, .null, .null, .null, .int 0, .int 0, .int 0]) (C := "RowImproverModel") (T := rz_F7) (N := 16) hx hb hts (rz_clw_of (ci := 7) rfl) (rz_fty 7) (rz_cty_of (ci := 7) rfl) hown (hts _ (rz_use (List.mem_of_getElem? (i := 625) (by decide +kernel)) rfl)) (hts _ (rz_use (List.mem_of_getElem? (i := 626) (by decide +kernel)) rfl)) (hts _ (rz_use (List.mem_of_getElem? (i := 35) (by decide +kernel)) rfl)) hK hP hD hS hA rfl (rz_df7) (show 25 + 1 ≤ 1074 by decide) (show 148 + 16 ≤ 8598 by decide) rk_dL_8 (fun q26 H hP hD hS => ?_)
  have hP : va_P D rz_cl [(q1, .inr (0, [.ref q2, .ref q4, .ref q7, .ref q9, .ref q14])), (q2, .inr (1, [.ref q3, .int 0])), (q3, .inl (cI, 24, .inl fun _ => 0)), (q4, .inr (2, [.ref q5, .ref q6, .int 0, .int 0, .int 0, .int 0])), (q5, .inl (cI, 8, .inl fun _ => 0)), (q6, .inl (cI, 8, .inl fun _ => 0)), (q7, .inr (3, [.ref q8])), (q8, .inl (cI, 25, .inl fun _ => 0)), (q9, .inr (4, [.ref q10, .ref q12, .int 0])), (q10, .inr (5, [.ref q11, .int 0])), (q11, .inl (cI, 3, .inl fun _ => 0)), (q12, .inr (5, [.ref q13, .int 0])), (q13, .inl (cI, 3, .inl fun _ => 0)), (q14, .inr (6, [.ref q15, .ref q17, .ref q22, .ref q24, .int 0, .int 0, .int 0])), (q15, .inr (3, [.ref q16])), (q16, .inl (cI, 25, .inl fun _ => 0)), (q17, .inr (4, [.ref q18, .ref q20, .int 0])), (q18, .inr (5, [.ref q19, .int 0])), (q19, .inl (cI, 3, .inl fun _ => 0)), (q20, .inr (5, [.ref q21, .int 0])), (q21, .inl (cI, 3, .inl fun _ => 0)), (q22, .inr (5, [.ref q23, .int 0])), (q23, .inl (cI, 3, .inl fun _ => 0)), (q24, .inr (5, [.ref q25, .int 0])), (q25, .inl (cI, 3, .inl fun _ => 0)), (q26, .inr (7, [.int 0, .int 0, .null, .null, .null, .null, .null, .null, .int 0, .int 0, .null, .null, .null, .int 0, .int 0, .int 0]))] H := hP
  have hD : va_D A [(q1, .inr (0, [.ref q2, .ref q4, .ref q7, .ref q9, .ref q14])), (q2, .inr (1, [.ref q3, .int 0])), (q3, .inl (cI, 24, .inl fun _ => 0)), (q4, .inr (2, [.ref q5, .ref q6, .int 0, .int 0, .int 0, .int 0])), (q5, .inl (cI, 8, .inl fun _ => 0)), (q6, .inl (cI, 8, .inl fun _ => 0)), (q7, .inr (3, [.ref q8])), (q8, .inl (cI, 25, .inl fun _ => 0)), (q9, .inr (4, [.ref q10, .ref q12, .int 0])), (q10, .inr (5, [.ref q11, .int 0])), (q11, .inl (cI, 3, .inl fun _ => 0)), (q12, .inr (5, [.ref q13, .int 0])), (q13, .inl (cI, 3, .inl fun _ => 0)), (q14, .inr (6, [.ref q15, .ref q17, .ref q22, .ref q24, .int 0, .int 0, .int 0])), (q15, .inr (3, [.ref q16])), (q16, .inl (cI, 25, .inl fun _ => 0)), (q17, .inr (4, [.ref q18, .ref q20, .int 0])), (q18, .inr (5, [.ref q19, .int 0])), (q19, .inl (cI, 3, .inl fun _ => 0)), (q20, .inr (5, [.ref q21, .int 0])), (q21, .inl (cI, 3, .inl fun _ => 0)), (q22, .inr (5, [.ref q23, .int 0])), (q23, .inl (cI, 3, .inl fun _ => 0)), (q24, .inr (5, [.ref q25, .int 0])), (q25, .inl (cI, 3, .inl fun _ => 0)), (q26, .inr (7, [.int 0, .int 0, .null, .null, .null, .null, .null, .null, .int 0, .int 0, .null, .null, .null, .int 0, .int 0, .int 0]))] := hD
  refine W.widen (k := 26) (n := 164) (by omega) (by omega) ?_
  refine lv_dup hx hb rk_dL_11 rfl ?_
  have hPc := hP.sub (ws' := [(q26, .inr (7, [.int 0, .int 0, .null, .null, .null, .null, .null, .null, .int 0, .int 0, .null, .null, .null, .int 0, .int 0, .int 0]))]) [25] rfl
  have hDc := hD.sub (ws' := [(q26, .inr (7, [.int 0, .int 0, .null, .null, .null, .null, .null, .null, .int 0, .int 0, .null, .null, .null, .int 0, .int 0, .int 0]))]) [25] (by decide) rfl
  have hFc := va_free (wc := [(q26, .inr (7, [.int 0, .int 0, .null, .null, .null, .null, .null, .null, .int 0, .int 0, .null, .null, .null, .int 0, .int 0, .int 0]))]) hD hS hA [25] rfl
  refine va_callv (va_runI (As := []) (rest := [.ref q26]) ⟨hx, hb, hml, hown, hts⟩ (k_7 l D cI cJ q26 H.size) (cwI 0 hts (rz_gi (rz_use (List.mem_of_getElem? (i := 629) (by decide +kernel)) rfl)) rfl rfl rfl (hts _ (rz_use (List.mem_of_getElem? (i := 35) (by decide +kernel)) rfl)) (hts _ (rz_use (List.mem_of_getElem? (i := 627) (by decide +kernel)) rfl)) (hts _ (rz_use (List.mem_of_getElem? (i := 628) (by decide +kernel)) rfl)) rfl (by decide +kernel) ⟨Nat.le_of_ble_eq_true rfl, Nat.le_of_ble_eq_true rfl⟩) (rz_pre hPc hK hDc hN) rfl rfl hlv.1 rfl (lv_room (Nat.le_of_ble_eq_true rfl)) rk_dL_12 ⟨(show 26 + 9 ≤ 1074 by decide), (show 164 + 157 ≤ 8598 by decide)⟩) hS (fun q _ h => hFc q h) hFc (fun u t H1 locs ht hvm _ hB hz1 hk1 hS => ?_)
  obtain ⟨q27, q28, q29, q30, q31, q32, q33, q34, q35, hP1, hD1⟩ := hB
  rw [ht] at hP1
  obtain ⟨hP, hD⟩ := va_join (wr := [(q1, .inr (0, [.ref q2, .ref q4, .ref q7, .ref q9, .ref q14])), (q2, .inr (1, [.ref q3, .int 0])), (q3, .inl (cI, 24, .inl fun _ => 0)), (q4, .inr (2, [.ref q5, .ref q6, .int 0, .int 0, .int 0, .int 0])), (q5, .inl (cI, 8, .inl fun _ => 0)), (q6, .inl (cI, 8, .inl fun _ => 0)), (q7, .inr (3, [.ref q8])), (q8, .inl (cI, 25, .inl fun _ => 0)), (q9, .inr (4, [.ref q10, .ref q12, .int 0])), (q10, .inr (5, [.ref q11, .int 0])), (q11, .inl (cI, 3, .inl fun _ => 0)), (q12, .inr (5, [.ref q13, .int 0])), (q13, .inl (cI, 3, .inl fun _ => 0)), (q14, .inr (6, [.ref q15, .ref q17, .ref q22, .ref q24, .int 0, .int 0, .int 0])), (q15, .inr (3, [.ref q16])), (q16, .inl (cI, 25, .inl fun _ => 0)), (q17, .inr (4, [.ref q18, .ref q20, .int 0])), (q18, .inr (5, [.ref q19, .int 0])), (q19, .inl (cI, 3, .inl fun _ => 0)), (q20, .inr (5, [.ref q21, .int 0])), (q21, .inl (cI, 3, .inl fun _ => 0)), (q22, .inr (5, [.ref q23, .int 0])), (q23, .inl (cI, 3, .inl fun _ => 0)), (q24, .inr (5, [.ref q25, .int 0])), (q25, .inl (cI, 3, .inl fun _ => 0))]) (w1 := [(q26, .inr (7, [.int 0, .int 0, .ref q27, .ref q28, .ref q29, .ref q30, .ref q31, .ref q32, .int 0, .int 0, .ref q33, .ref q34, .ref q35, .int 0, .int 0, .int 0])), (q27, .inl (cI, 25, .inl fun _ => 0)), (q28, .inl (cI, 25, .inl fun _ => 0)), (q29, .inl (cI, 25, .inl fun _ => 0)), (q30, .inl (cI, 25, .inl fun _ => 0)), (q31, .inl (cI, 12, .inl fun _ => 0)), (q32, .inl (cI, 12, .inl fun _ => 0)), (q33, .inl (cI, 25, .inl fun _ => 0)), (q34, .inl (cI, 4, .inl fun _ => 0)), (q35, .inl (cI, 4, .inl fun _ => 0))]) hP hD [25] [0, 1, 2, 3, 4, 5, 6, 7, 8, 9, 10, 11, 12, 13, 14, 15, 16, 17, 18, 19, 20, 21, 22, 23, 24] rfl rfl (by decide) (by decide) hk1 hFc hP1 hD1
  generalize H1 = H at hP hS ⊢
  have hP : va_P D rz_cl [(q1, .inr (0, [.ref q2, .ref q4, .ref q7, .ref q9, .ref q14])), (q2, .inr (1, [.ref q3, .int 0])), (q3, .inl (cI, 24, .inl fun _ => 0)), (q4, .inr (2, [.ref q5, .ref q6, .int 0, .int 0, .int 0, .int 0])), (q5, .inl (cI, 8, .inl fun _ => 0)), (q6, .inl (cI, 8, .inl fun _ => 0)), (q7, .inr (3, [.ref q8])), (q8, .inl (cI, 25, .inl fun _ => 0)), (q9, .inr (4, [.ref q10, .ref q12, .int 0])), (q10, .inr (5, [.ref q11, .int 0])), (q11, .inl (cI, 3, .inl fun _ => 0)), (q12, .inr (5, [.ref q13, .int 0])), (q13, .inl (cI, 3, .inl fun _ => 0)), (q14, .inr (6, [.ref q15, .ref q17, .ref q22, .ref q24, .int 0, .int 0, .int 0])), (q15, .inr (3, [.ref q16])), (q16, .inl (cI, 25, .inl fun _ => 0)), (q17, .inr (4, [.ref q18, .ref q20, .int 0])), (q18, .inr (5, [.ref q19, .int 0])), (q19, .inl (cI, 3, .inl fun _ => 0)), (q20, .inr (5, [.ref q21, .int 0])), (q21, .inl (cI, 3, .inl fun _ => 0)), (q22, .inr (5, [.ref q23, .int 0])), (q23, .inl (cI, 3, .inl fun _ => 0)), (q24, .inr (5, [.ref q25, .int 0])), (q25, .inl (cI, 3, .inl fun _ => 0)), (q26, .inr (7, [.int 0, .int 0, .ref q27, .ref q28, .ref q29, .ref q30, .ref q31, .ref q32, .int 0, .int 0, .ref q33, .ref q34, .ref q35, .int 0, .int 0, .int 0])), (q27, .inl (cI, 25, .inl fun _ => 0)), (q28, .inl (cI, 25, .inl fun _ => 0)), (q29, .inl (cI, 25, .inl fun _ => 0)), (q30, .inl (cI, 25, .inl fun _ => 0)), (q31, .inl (cI, 12, .inl fun _ => 0)), (q32, .inl (cI, 12, .inl fun _ => 0)), (q33, .inl (cI, 25, .inl fun _ => 0)), (q34, .inl (cI, 4, .inl fun _ => 0)), (q35, .inl (cI, 4, .inl fun _ => 0))] H := hP
  have hD : va_D A [(q1, .inr (0, [.ref q2, .ref q4, .ref q7, .ref q9, .ref q14])), (q2, .inr (1, [.ref q3, .int 0])), (q3, .inl (cI, 24, .inl fun _ => 0)), (q4, .inr (2, [.ref q5, .ref q6, .int 0, .int 0, .int 0, .int 0])), (q5, .inl (cI, 8, .inl fun _ => 0)), (q6, .inl (cI, 8, .inl fun _ => 0)), (q7, .inr (3, [.ref q8])), (q8, .inl (cI, 25, .inl fun _ => 0)), (q9, .inr (4, [.ref q10, .ref q12, .int 0])), (q10, .inr (5, [.ref q11, .int 0])), (q11, .inl (cI, 3, .inl fun _ => 0)), (q12, .inr (5, [.ref q13, .int 0])), (q13, .inl (cI, 3, .inl fun _ => 0)), (q14, .inr (6, [.ref q15, .ref q17, .ref q22, .ref q24, .int 0, .int 0, .int 0])), (q15, .inr (3, [.ref q16])), (q16, .inl (cI, 25, .inl fun _ => 0)), (q17, .inr (4, [.ref q18, .ref q20, .int 0])), (q18, .inr (5, [.ref q19, .int 0])), (q19, .inl (cI, 3, .inl fun _ => 0)), (q20, .inr (5, [.ref q21, .int 0])), (q21, .inl (cI, 3, .inl fun _ => 0)), (q22, .inr (5, [.ref q23, .int 0])), (q23, .inl (cI, 3, .inl fun _ => 0)), (q24, .inr (5, [.ref q25, .int 0])), (q25, .inl (cI, 3, .inl fun _ => 0)), (q26, .inr (7, [.int 0, .int 0, .ref q27, .ref q28, .ref q29, .ref q30, .ref q31, .ref q32, .int 0, .int 0, .ref q33, .ref q34, .ref q35, .int 0, .int 0, .int 0])), (q27, .inl (cI, 25, .inl fun _ => 0)), (q28, .inl (cI, 25, .inl fun _ => 0)), (q29, .inl (cI, 25, .inl fun _ => 0)), (q30, .inl (cI, 25, .inl fun _ => 0)), (q31, .inl (cI, 12, .inl fun _ => 0)), (q32, .inl (cI, 12, .inl fun _ => 0)), (q33, .inl (cI, 25, .inl fun _ => 0)), (q34, .inl (cI, 4, .inl fun _ => 0)), (q35, .inl (cI, 4, .inl fun _ => 0))] := hD
  refine W.widen (k := 35) (n := 321) (by omega) (by omega) ?_
  refine lv_astore_n (lv' := [(2, .ref q26), (1, .ref q1), (0, .ref b)]) hx hb rk_dL_15 rfl hlv (by decide) rfl (fun ls hlv => ?_)
  refine lv_iconst (v := 1) hx hb rk_dL_16 (by decide) ?_
  refine rz_newl hx hb (hts _ rk_aj) hK hP hD hS hA (N' := 1) (by decide) (by decide) (by decide) (show 35 + 1 ≤ 1074 by decide) (show 321 + 1 ≤ 8598 by decide) rk_dL_17 (fun q36 H hP hD hS => ?_)
  have hP : va_P D rz_cl [(q1, .inr (0, [.ref q2, .ref q4, .ref q7, .ref q9, .ref q14])), (q2, .inr (1, [.ref q3, .int 0])), (q3, .inl (cI, 24, .inl fun _ => 0)), (q4, .inr (2, [.ref q5, .ref q6, .int 0, .int 0, .int 0, .int 0])), (q5, .inl (cI, 8, .inl fun _ => 0)), (q6, .inl (cI, 8, .inl fun _ => 0)), (q7, .inr (3, [.ref q8])), (q8, .inl (cI, 25, .inl fun _ => 0)), (q9, .inr (4, [.ref q10, .ref q12, .int 0])), (q10, .inr (5, [.ref q11, .int 0])), (q11, .inl (cI, 3, .inl fun _ => 0)), (q12, .inr (5, [.ref q13, .int 0])), (q13, .inl (cI, 3, .inl fun _ => 0)), (q14, .inr (6, [.ref q15, .ref q17, .ref q22, .ref q24, .int 0, .int 0, .int 0])), (q15, .inr (3, [.ref q16])), (q16, .inl (cI, 25, .inl fun _ => 0)), (q17, .inr (4, [.ref q18, .ref q20, .int 0])), (q18, .inr (5, [.ref q19, .int 0])), (q19, .inl (cI, 3, .inl fun _ => 0)), (q20, .inr (5, [.ref q21, .int 0])), (q21, .inl (cI, 3, .inl fun _ => 0)), (q22, .inr (5, [.ref q23, .int 0])), (q23, .inl (cI, 3, .inl fun _ => 0)), (q24, .inr (5, [.ref q25, .int 0])), (q25, .inl (cI, 3, .inl fun _ => 0)), (q26, .inr (7, [.int 0, .int 0, .ref q27, .ref q28, .ref q29, .ref q30, .ref q31, .ref q32, .int 0, .int 0, .ref q33, .ref q34, .ref q35, .int 0, .int 0, .int 0])), (q27, .inl (cI, 25, .inl fun _ => 0)), (q28, .inl (cI, 25, .inl fun _ => 0)), (q29, .inl (cI, 25, .inl fun _ => 0)), (q30, .inl (cI, 25, .inl fun _ => 0)), (q31, .inl (cI, 12, .inl fun _ => 0)), (q32, .inl (cI, 12, .inl fun _ => 0)), (q33, .inl (cI, 25, .inl fun _ => 0)), (q34, .inl (cI, 4, .inl fun _ => 0)), (q35, .inl (cI, 4, .inl fun _ => 0)), (q36, .inl (cJ, 1, .inr (.inl fun _ => 0)))] H := hP
  have hD : va_D A [(q1, .inr (0, [.ref q2, .ref q4, .ref q7, .ref q9, .ref q14])), (q2, .inr (1, [.ref q3, .int 0])), (q3, .inl (cI, 24, .inl fun _ => 0)), (q4, .inr (2, [.ref q5, .ref q6, .int 0, .int 0, .int 0, .int 0])), (q5, .inl (cI, 8, .inl fun _ => 0)), (q6, .inl (cI, 8, .inl fun _ => 0)), (q7, .inr (3, [.ref q8])), (q8, .inl (cI, 25, .inl fun _ => 0)), (q9, .inr (4, [.ref q10, .ref q12, .int 0])), (q10, .inr (5, [.ref q11, .int 0])), (q11, .inl (cI, 3, .inl fun _ => 0)), (q12, .inr (5, [.ref q13, .int 0])), (q13, .inl (cI, 3, .inl fun _ => 0)), (q14, .inr (6, [.ref q15, .ref q17, .ref q22, .ref q24, .int 0, .int 0, .int 0])), (q15, .inr (3, [.ref q16])), (q16, .inl (cI, 25, .inl fun _ => 0)), (q17, .inr (4, [.ref q18, .ref q20, .int 0])), (q18, .inr (5, [.ref q19, .int 0])), (q19, .inl (cI, 3, .inl fun _ => 0)), (q20, .inr (5, [.ref q21, .int 0])), (q21, .inl (cI, 3, .inl fun _ => 0)), (q22, .inr (5, [.ref q23, .int 0])), (q23, .inl (cI, 3, .inl fun _ => 0)), (q24, .inr (5, [.ref q25, .int 0])), (q25, .inl (cI, 3, .inl fun _ => 0)), (q26, .inr (7, [.int 0, .int 0, .ref q27, .ref q28, .ref q29, .ref q30, .ref q31, .ref q32, .int 0, .int 0, .ref q33, .ref q34, .ref q35, .int 0, .int 0, .int 0])), (q27, .inl (cI, 25, .inl fun _ => 0)), (q28, .inl (cI, 25, .inl fun _ => 0)), (q29, .inl (cI, 25, .inl fun _ => 0)), (q30, .inl (cI, 25, .inl fun _ => 0)), (q31, .inl (cI, 12, .inl fun _ => 0)), (q32, .inl (cI, 12, .inl fun _ => 0)), (q33, .inl (cI, 25, .inl fun _ => 0)), (q34, .inl (cI, 4, .inl fun _ => 0)), (q35, .inl (cI, 4, .inl fun _ => 0)), (q36, .inl (cJ, 1, .inr (.inl fun _ => 0)))] := hD
  refine W.widen (k := 36) (n := 322) (by omega) (by omega) ?_
  refine lv_astore_n (lv' := [(3, .ref q36), (2, .ref q26), (1, .ref q1), (0, .ref b)]) hx hb rk_dL_19 rfl hlv (by decide) rfl (fun ls hlv => ?_)
  refine lv_iconst (v := 0) hx hb rk_dL_20 (by decide) ?_
  refine lv_istore (lv' := [(4, .int 0), (3, .ref q36), (2, .ref q26), (1, .ref q1), (0, .ref b)]) hx hb rk_dL_21 hlv (by decide) rfl (fun ls hlv => ?_)
  obtain ⟨ad, had, hPw, hDw, hLr⟩ : ∃ ad : Nat → Nat, ad 999 = b ∧ va_P D rz_cl (rz_ws cI cJ ad (rz_w (fun _ => 0) (fun _ _ => 0) (fun _ => 0))) H ∧ va_D A (rz_ws cI cJ ad (rz_w (fun _ => 0) (fun _ _ => 0) (fun _ => 0))) ∧ rz_Lr ad ls 7 [some (.ref 999), some (.ref 0), some (.ref 25), some (.ref 35), some (.int (Int32.ofNat (6 * 0))), none, none] := by
    obtain ⟨ad, e999, e0, e1, e2, e3, e4, e5, e6, e7, e8, e9, e10, e11, e12, e13, e14, e15, e16, e17, e18, e19, e20, e21, e22, e23, e24, e25, e26, e27, e28, e29, e30, e31, e32, e33, e34, e35⟩ : ∃ ad : Nat → Nat, ad 999 = b ∧ ad 0 = q1 ∧ ad 1 = q2 ∧ ad 2 = q3 ∧ ad 3 = q4 ∧ ad 4 = q5 ∧ ad 5 = q6 ∧ ad 6 = q7 ∧ ad 7 = q8 ∧ ad 8 = q9 ∧ ad 9 = q10 ∧ ad 10 = q11 ∧ ad 11 = q12 ∧ ad 12 = q13 ∧ ad 13 = q14 ∧ ad 14 = q15 ∧ ad 15 = q16 ∧ ad 16 = q17 ∧ ad 17 = q18 ∧ ad 18 = q19 ∧ ad 19 = q20 ∧ ad 20 = q21 ∧ ad 21 = q22 ∧ ad 22 = q23 ∧ ad 23 = q24 ∧ ad 24 = q25 ∧ ad 25 = q26 ∧ ad 26 = q27 ∧ ad 27 = q28 ∧ ad 28 = q29 ∧ ad 29 = q30 ∧ ad 30 = q31 ∧ ad 31 = q32 ∧ ad 32 = q33 ∧ ad 33 = q34 ∧ ad 34 = q35 ∧ ad 35 = q36 := ⟨rz_ad b [q1, q2, q3, q4, q5, q6, q7, q8, q9, q10, q11, q12, q13, q14, q15, q16, q17, q18, q19, q20, q21, q22, q23, q24, q25, q26, q27, q28, q29, q30, q31, q32, q33, q34, q35, q36], rfl, rfl, rfl, rfl, rfl, rfl, rfl, rfl, rfl, rfl, rfl, rfl, rfl, rfl, rfl, rfl, rfl, rfl, rfl, rfl, rfl, rfl, rfl, rfl, rfl, rfl, rfl, rfl, rfl, rfl, rfl, rfl, rfl, rfl, rfl, rfl, rfl⟩
    refine ⟨ad, e999, ?_, ?_, hlv.1, hlv.2.1, rfl, fun i v hi => ?_⟩
    · rw [rz_ws_w]
      simp only [e0, e1, e2, e3, e4, e5, e6, e7, e8, e9, e10, e11, e12, e13, e14, e15, e16, e17, e18, e19, e20, e21, e22, e23, e24, e25, e26, e27, e28, e29, e30, e31, e32, e33, e34, e35]
      exact hP
    · rw [rz_ws_w]
      simp only [e0, e1, e2, e3, e4, e5, e6, e7, e8, e9, e10, e11, e12, e13, e14, e15, e16, e17, e18, e19, e20, e21, e22, e23, e24, e25, e26, e27, e28, e29, e30, e31, e32, e33, e34, e35]
      exact hD
    have hlt : i < 7 := (List.getElem?_eq_some_iff.mp hi).1
    rcases (show i = 0 ∨ i = 1 ∨ i = 2 ∨ i = 3 ∨ i = 4 ∨ i = 5 ∨ i = 6 by omega) with rfl | rfl | rfl | rfl | rfl | rfl | rfl
    · cases hi; exact ⟨rfl, (lv_at hlv 4 rfl).trans (by show _ = some (Slot.val (.ref (ad 999))); rw [e999])⟩
    · cases hi; exact ⟨rfl, (lv_at hlv 3 rfl).trans (by show _ = some (Slot.val (.ref (ad 0))); rw [e0])⟩
    · cases hi; exact ⟨rfl, (lv_at hlv 2 rfl).trans (by show _ = some (Slot.val (.ref (ad 25))); rw [e25])⟩
    · cases hi; exact ⟨rfl, (lv_at hlv 1 rfl).trans (by show _ = some (Slot.val (.ref (ad 35))); rw [e35])⟩
    · cases hi; exact ⟨rfl, lv_at hlv 0 rfl⟩
    · cases hi
    · cases hi
  obtain ⟨n, r, w', hrun, hr1⟩ := rz_law (xs := xs) (xl := L) (c0 := 36) (s0' := 322) hL (by decide) (by decide) 600 0 rfl (by decide) (fun _ => 0) (fun _ _ => 0) (fun _ => 0) none none 36 322 (fun _ => (0, 0, 0, 0)) 0 0 0 0 rz_CC0 rz_RR0 (by decide) (by decide)
  have hnA : ¬ A b := fun h => by rw [hAe] at h; exact absurd hbl (Nat.not_lt.mpr h)
  refine rz_sound hl (xs := xs) (xl := L) (D := D) (cI := cI) (cJ := cJ) (ad := ad) n 0 23 _ [] _ 36 322 r w' hrun p e room_1 s m #[Value.ref b] below meth c A _ H locs ls ⟨hx, hb, hml, hown, hts, hK, hA, rfl⟩ hXX (by rw [hex]; rfl) (fun _ => ⟨by rw [had]; exact hX, by rw [had]; exact hbl, by rw [had]; exact hnA⟩) hPw hDw hS hLr (by decide) (by decide) ?_
  intro pc ins len x y z kd st ls2 H2 locs2 kc ks hcd hcase hls hkc hks hP' hD' hS'
  rcases hcase with ⟨rfl, v, hv, hrv⟩ | ⟨rfl, -, hrv, -⟩
  · rw [hr1] at hrv
    cases hrv
    rcases rz_ok2 (rz_all hcd) with ⟨hrt, hdg⟩ | ⟨hrt, hdg⟩ | ⟨hrt, hdg⟩
    · cases hrt
    · cases hrt
    · obtain ⟨a, rfl, he, -⟩ := rz_end_z hv
      cases he
      exact W.widen (k := 1074) (n := 8598) hkc hks (va_forget (fun q hq => by have h9 := hS'.2.2 q hq; rw [hAe] at h9; exact h9) (lw_ret hx hb hr hlocks hdg))
  · rw [hr1] at hrv
    cases hrv
set_option maxHeartbeats 4000000 in
theorem lw_walk (l : Launch) (hl : l.stackTraces = false) (b : Addr) (xs : List Int32) : MetFree l x (headSpec (Jvm.Cond.code x code maxLocals ret :: tables_1) room_1) (lw_P b xs) (fun _ _ _ _ _ => True) lw_Q := by
  refine MetFree.of_bodyS (code := code) (maxLocals := maxLocals) (ret := ret) (by decide) ?_ ?_
  · intro args s m h hn
    obtain ⟨meth, c, h1, h2, h3, h4, h5, h6, -, -⟩ := Cond.code_spec hn (atoms_spec (ws := Jvm.Cond.code x code maxLocals ret :: tables_1) h _ List.mem_cons_self)
    exact ⟨meth, c, h1, h2, h3, h4, h5, h6⟩
  · intro p e s m args below meth c s₁ B hml0 hP _
    obtain ⟨rfl, hx, hbd, hgv⟩ := hP
    obtain ⟨scr, harrAt, hlist, hof, hsmall⟩ := hx
    obtain ⟨hcb, hkn, -, -⟩ := State.arrayAt?_spec harrAt
    have hown : s.vm.findClass R_law = some m.cls := findClass_of_methodNamed B.named
    have hts0 : ∀ c ∈ (Jvm.Cond.code x code maxLocals ret :: tables_1), c.before #[Value.ref b] s = true := atoms_spec (ws := Jvm.Cond.code x code maxLocals ret :: tables_1) B.pre
    have hts : ∀ w ∈ lw_tbl, w.before #[Value.ref b] s = true := k2_hts_sels lw_privs (fun w hw => hts0 w (List.mem_cons_of_mem _ hw)) lw_privs_ok
    have hml : c.maxLocals = 7 := B.maxLocals_eq (hts0 _ List.mem_cons_self)
    have X₀ : Stand p l e room_1 s m #[Value.ref b] below meth c s₁ [] 0 0 := Stand.of_body B
    have hh0 : s₁.heap = s.heap := by rw [B.state]; rfl
    have hex : c.exceptionTable.toList = [] := by
      obtain ⟨meth', c', a1, a2, -, -, -, -, a7, -⟩ := Cond.code_spec B.named (hts0 _ List.mem_cons_self)
      cases B.method.symm.trans a1
      cases X₀.code.symm.trans a2
      have h0 : c.exceptionTable.size = 0 := by simpa [Array.isEmpty] using a7
      exact List.eq_nil_of_length_eq_zero (by simpa using h0)
    have hsz : scr.slots.size = xs.length := by rw [← Array.length_toList, hlist, List.length_map]
    have hval : ∀ j : Nat, j < xs.length → scr.slots[j]? = some (.int (xs.getD j 0)) := fun j hj => by
      rw [← Array.getElem?_toList, hlist]
      simp [hj]
    have hbl : b < s.heap.size := (Array.getElem?_eq_some_iff.mp hcb).1
    have hX : va_X b xs.length (fun j => xs.getD j 0) s s.heap := ⟨scr, hcb, hof, hkn, hsz, hval⟩
    have K : W p l e room_1 s m #[Value.ref b] below meth c s₁.heap [] 0 0 (lw_Z below #[Value.ref b] s) (entryFrame m ([Value.ref b] : List Value).toArray 7) := by
      rw [hh0]
      exact whole_start l hl hbd ⟨B.exec, B.bytes, B.returns, hml, hown, hts, hX, hbl, B.notSynchronized, hgv, hex⟩
    obtain ⟨t, a1, o, b1, b2, b3⟩ := K s₁ rfl X₀
    exact ⟨t, o, a1, b1, b2, b3⟩
theorem lw_pre_spec {args : Array Value} {s : State} (h : (Jvm.Cond.and given_1 narrow_1).before args s = true) (hr : rest_1_c.before args s = true) : ∃ (b : Addr) (xs : List Int32), lw_P b xs args s := by
  have hs := flat_of_before _ h
  have hq := flat_of_before _ hr
  have hc : (Cond.count 1).before args s = true := hs _ (by decide +kernel)
  have harr : (Cond.arrayOf (.arg 0) .int).before args s = true := hs _ (by decide +kernel)
  have hle : (Cond.le (.length (.arg 0)) (.int 3072)).before args s = true := hs _ (by decide +kernel)
  have hlen : (Cond.isInt (.length (.arg 0))).before args s = true := hq _ (by decide +kernel)
  have hall : (Cond.all (.arg 0) (.isInt (.elem (.arg 0) (.index 0)))).before args s = true := hq _ (by decide +kernel)
  obtain ⟨b, xs, hb, hx⟩ := State.ints_of_pre rfl harr hlen hall
  have hsm : xs.length < 2 ^ 31 := hx.choose_spec.2.2.2
  have hev : (Term.length (.arg 0)).eval args s none [] s = some (.int xs.length.toInt32) := hx.length_eval hb
  have hv := Cond.le_ints hev (show (Term.int 3072).eval args s none [] s = some (.int 3072) from rfl)
  have hd : xs.length.toInt32 ≤ 3072 := by
    simpa [Cond.before, Cond.holds, hv] using hle
  have hN : xs.length ≤ 3072 := (Int32.ofNat_le_ofNat hsm (by decide)).mp (show Int32.ofNat xs.length ≤ Int32.ofNat 3072 from hd)
  exact ⟨b, xs, Cond.one_arg hc (show args[0]? = some (.ref b) from hb), hx, hN, h⟩
theorem lw_comes (l : Launch) (hl : l.stackTraces = false) : Comes l x (Jvm.Cond.code x code maxLocals ret :: tables_1) room_1 (fun tb e args s => Calls_1 tb e args s ∧ rest_1 tb e args s ∧ Pre_1 tb e args s)
    (fun _ _ args s o t => lw_Q args s o t) := by
  intro p e ha hc hk s m args below hf hfit hheap happ hpre
  obtain ⟨b, xs, hP⟩ := lw_pre_spec hpre.2.2 hpre.2.1
  obtain ⟨k, o, h1, h2, h3, hQ⟩ := lw_walk l hl b xs p e ha hc hk s m args below hf ((Spec.applies_iff_loose hf).mp happ).1 hP trivial
  exact ⟨k, o, h1, h2, h3, hQ⟩
theorem lw_frame {s t : State} {o : Outcome} {args : Array Value} (h : Framed s o t [] 1074 8598) :
    Framed s o t (fieldLocs frame_1_writes args s ++ arrayLocs frame_1_arrays args s ++ staticLocs frame_1_statics s) 1074 8598 := h
theorem lw_limb (L : Cond) (hL : ∀ (args : Array Value) (s t : State), L.after args s (.returned (some (.int 1))) t = true) :
    ArmFor flags0 classFile x code maxLocals ret World_1 tables_1 room_1 Calls_1 rest_1 Pre_1
      (fun tb e a s o t => postC L tb e a s o t ∧ Framed s o t (fieldLocs frame_1_writes a s ++ arrayLocs frame_1_arrays a s ++ staticLocs frame_1_statics s) 1074 8598) := by
  intro l hfl _ _ p e ha hc hk s m args below hf hfit hheap happ hpre
  have hl : l.stackTraces = false := by unfold Launch.stackTraces; rw [hfl]; decide +kernel
  obtain ⟨k, o, h1, h2, h3, rfl, hF⟩ := lw_comes l hl p e ha hc hk s m args below hf hfit hheap happ hpre
  exact ⟨k, _, h1, h2, h3, hL args s _, lw_frame hF⟩
theorem i_vc : Claimed_1_1 ∧ Claimed_1_2 := ⟨lw_limb limb_1_1 (fun args s t => by simp [limb_1_1, Cond.after, Cond.holds, Cond.value]), lw_limb limb_1_2 (fun args s t => Cond.after_iff.mpr (by
  first | (rw [show limb_1_2 = Cond.eq .result (.int 1) from rfl, Cond.eq_ints (x := 1) (y := 1) rfl rfl]; simp; done) | (simp [limb_1_2, Cond.value, Term.eval]; done)))⟩
