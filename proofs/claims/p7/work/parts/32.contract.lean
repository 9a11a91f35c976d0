/-! what a frame knows beside its world: Throwable's two statics, the words that move with the tables alone, the constants; a method's contract -/
def rz_tN : String := "java/lang/Throwable"
def rz_Zs (n d : String) (A : Nat → Prop) (U : State) (H : Heap) : Prop := ∃ (c : ClassId) (k : Class) (i : Nat) (f : Field) (a : Nat) (cell : Cell) (v : Value), U.vm.findClass rz_tN = some c ∧ U.fieldFound? rz_tN n d = some (c, k, i, f) ∧ f.isStatic = true ∧ k.statics = some a ∧ H[a]? = some cell ∧ cell.vm.isStatics = true ∧ cell.cls = c ∧ f.slot < cell.slots.size ∧ k.staticTypes[f.slot]? = some f.type ∧ cell.slots[f.slot]? = some v ∧ v.isRef = true ∧ ¬ A a
theorem rz_Zs.moved {n d : String} {A : Nat → Prop} {u U : State} {H : Heap} (hvm : u.vm.Alike U.vm) (h : rz_Zs n d A u H) : rz_Zs n d A U H := by
  obtain ⟨c, k, i, f, a, cell, v, h1, h2, h3, h4, h5, h6, h7, h8, h9, h10⟩ := h
  obtain ⟨k', hi', he⟩ := State.fieldFound?_setVm hvm h2
  exact ⟨c, k', i, f, a, cell, v, by rw [hvm.findClass]; exact h1, hi', h3, by rw [he]; exact h4, h5, h6, h7, h8, by rw [he]; exact h9, h10⟩
theorem rz_Zs.kept {n d : String} {A : Nat → Prop} {U : State} {H H1 : Heap} (h : rz_Zs n d A U H) (hq : ∀ a : Nat, a < H.size → ¬ A a → H1[a]? = H[a]?) : rz_Zs n d A U H1 := by
  obtain ⟨c, k, i, f, a, cell, v, h1, h2, h3, h4, h5, h6, h7, h8, h9, h10, h11, h12⟩ := h
  exact ⟨c, k, i, f, a, cell, v, h1, h2, h3, h4, by rw [hq a (Array.getElem?_eq_some_iff.mp h5).1 h12]; exact h5, h6, h7, h8, h9, h10, h11, h12⟩
theorem rz_Zs.narrow {n d : String} {A B : Nat → Prop} {U : State} {H : Heap} (h : rz_Zs n d A U H) (hAB : ∀ q, q < H.size → B q → A q) : rz_Zs n d B U H := by
  obtain ⟨c, k, i, f, a, cell, v, h1, h2, h3, h4, h5, h6, h7, h8, h9, h10, h11, h12⟩ := h
  exact ⟨c, k, i, f, a, cell, v, h1, h2, h3, h4, h5, h6, h7, h8, h9, h10, h11, fun z => h12 (hAB a (Array.getElem?_eq_some_iff.mp h5).1 z)⟩
theorem rz_Zs.of {args : Array Value} {s : State} {n d : String} {A : Nat → Prop} (hl : (Cond.laysStatic rz_tN n d).before args s = true) (h : (Cond.isRef (.static rz_tN n d)).before args s = true) (hA : ∀ a : Nat, a < s.heap.size → ¬ A a) : rz_Zs n d A s s.heap := by
  obtain ⟨c, k, i, f, a, cell, hc, hi, hst, ha, hcell, hs, hcls, hlt, hty⟩ := Cond.laysStatic_spec hl
  cases hv : (Term.static rz_tN n d).eval args s none [] s with
  | none => simp [Cond.before, Cond.holds, Cond.value, hv] at h
  | some v =>
    obtain ⟨hst', a', cell', ha', hcell', -, hslot⟩ := Term.static_spec hi hv
    cases ha.symm.trans ha'
    cases hcell.symm.trans hcell'
    refine ⟨c, k, i, f, a, cell, v, hc, hi, hst, ha, hcell, hs, hcls, hlt, hty, hslot, ?_, hA a (Array.getElem?_eq_some_iff.mp hcell).1⟩
    simp only [Cond.before, Cond.holds, Cond.value, hv] at h
    cases v <;> simp_all [Value.isRef]
theorem rz_Zs.lays {args : Array Value} {s : State} {n d : String} {A : Nat → Prop} (h : rz_Zs n d A s s.heap) : (Cond.laysStatic rz_tN n d).before args s = true := by
  obtain ⟨c, k, i, f, a, cell, v, h1, h2, h3, h4, h5, h6, h7, h8, h9, h10, h11, h12⟩ := h
  simp [Cond.before, Cond.holds, Cond.value, h1, h2, h3, h4, h5, h6, h7, h8, h9]
theorem rz_Zs.isRef {args : Array Value} {s : State} {n d : String} {A : Nat → Prop} (h : rz_Zs n d A s s.heap) : (Cond.isRef (.static rz_tN n d)).before args s = true := by
  obtain ⟨c, k, i, f, a, cell, v, h1, h2, h3, h4, h5, h6, h7, h8, h9, h10, h11, h12⟩ := h
  have hv : (Term.static rz_tN n d).eval args s none [] s = some v := by
    simp [Term.eval, State.fieldNamed?, h2, h3, h4, h5, h6, h10]
  simp only [Cond.before, Cond.holds, Cond.value, hv]
  cases v <;> simp_all [Value.isRef]
def rz_isX (w : Cond) : Bool := match w with
  | .declares _ => true
  | .castable _ _ => true
  | _ => false
theorem rz_X_moved {w : Cond} (hw : rz_isX w = true) {u U : State} (hvm : u.vm.Alike U.vm) (h : w.before #[] u = true) : w.before #[] U = true := by
  cases w <;> first | (simp [rz_isX] at hw; done) | skip
  · exact va_tabs rfl (rfl : (u.setVm U.vm).vm = U.vm) (by rw [Cond.declares_setVm hvm]; exact h)
  · exact va_tabs rfl (rfl : (u.setVm U.vm).vm = U.vm) (by rw [Cond.castable_setVm hvm]; exact h)
def rz_X (A : Nat → Prop) (U : State) (H : Heap) : Prop :=
  rz_Zs "UNASSIGNED_STACK" "[Ljava/lang/StackTraceElement;" A U H ∧ rz_Zs "SUPPRESSED_SENTINEL" "Ljava/util/List;" A U H ∧ (∀ w ∈ lw_tbl, rz_isX w = true → w.before #[] U = true) ∧ (∀ (own tx : String) (k : Nat), Cond.stringRef own k tx ∈ lw_tbl → ∃ a, vk_R own k tx a U) ∧ (∀ i j : Nat, i < 4 → j < 4 → i ≠ j → ∀ c c' : ClassId, U.vm.findClass (rz_xn i) = some c → U.vm.findClass (rz_xn j) = some c' → U.vm.assignable c c' = false)
theorem rz_X.go {A B : Nat → Prop} {s U : State} {H : Heap} (h : rz_X A s s.heap) (hW : s.WarmedH U.vm) (hk : ∀ a : Nat, a < s.heap.size → ¬ A a → H[a]? = s.heap[a]?) (hAB : ∀ q, q < H.size → B q → A q) : rz_X B U H := by
  obtain ⟨h1, h2, h3, h4, h5⟩ := h
  refine ⟨((h1.kept hk).narrow hAB).moved hW.alike, ((h2.kept hk).narrow hAB).moved hW.alike, fun w hw hx => rz_X_moved hx hW.alike (h3 w hw hx), fun own tx k hw => ?_, fun i j hi hj hn c c' hc hc' => ?_⟩
  · obtain ⟨a, ha⟩ := h4 own tx k hw
    exact ⟨a, ha.warm hW⟩
  · rw [hW.alike.findClass] at hc hc'
    rw [hW.alike.assignable]
    exact h5 i j hi hj hn c c' hc hc'
def rz_B (cI cJ : ClassId) (ad : Nat → Nat) (w : rz_W) : Nat → Prop := fun q => ∃ (k : Nat) (e : va_E), (rz_ws cI cJ ad w)[k]? = some (q, e)
def rz_Pc (D : va_G) (cI cJ : ClassId) (ad : Nat → Nat) (av : List Value) (w : rz_W) : Array Value → State → Prop := fun a U =>
  a = (av.map (rz_v ad)).toArray ∧ va_P D rz_cl (rz_ws cI cJ ad w) U.heap ∧ va_D (fun _ => True) (rz_ws cI cJ ad w) ∧ va_K D rz_cl [(cI, .int), (cJ, .long)] U ∧ rz_X (rz_B cI cJ ad w) U U.heap
def rz_out (ad : Nat → Nat) (r : rz_R) (st : State) (o : Outcome) (t : State) : Prop := match r with
  | .inl v => o = .returned (v.map (rz_v ad))
  | .inr k => ∃ (q : Addr) (ce : Cell), o = .threw q ∧ t.heap[q]? = some ce ∧ ce.vm.isStatics = false ∧ st.vm.findClass (rz_xn k) = some ce.cls ∧ st.vm.assignable ce.cls ce.cls = true
def rz_Qc (M : Nat) (D : va_G) (cI cJ : ClassId) (ad : Nat → Nat) (w : rz_W) (r : rz_R) (w' : rz_W) : Array Value → State → Outcome → State → Prop := fun _ st o t =>
  va_P D rz_cl (rz_ws cI cJ ad w') t.heap ∧ va_D (va_A (rz_ws cI cJ ad w) st.heap.size) (rz_ws cI cJ ad w') ∧ st.WarmedH t.vm ∧ va_F (va_A (rz_ws cI cJ ad w) st.heap.size) st t ∧
  (∃ Ls : List Loc, st.sameButNew ({ t with vm := st.vm } : State) Ls (rz_MC M) (rz_MS M) ∧ ∀ q ∈ Ls, va_A (rz_ws cI cJ ad w) st.heap.size q.base) ∧ rz_out ad r st o t
def rz_Met (l : Launch) (M : Nat) (D : va_G) (cI cJ : ClassId) (ad : Nat → Nat) (av : List Value) (w : rz_W) (r : rz_R) (w' : rz_W) : Prop :=
  MetFree l (rz_y M) (headSpec rz_tw (rz_rm M)) (rz_Pc D cI cJ ad av w) (fun _ _ _ _ _ => True) (rz_Qc M D cI cJ ad w r w')
/-- a method's code by its word -/
theorem rz_codeS {M : Nat} (hM : rz_mok M = true) {args : Array Value} {s : State} (hts : ∀ w ∈ rz_tw, w.before args s = true) :
    ∃ (mk : MethodId) (meth : Method) (c : Code), s.methodNamed? (rz_y M) = some mk ∧ s.vm.method? mk = some meth ∧ meth.code = some c ∧ c.code = rz_by M ∧ c.maxLocals = rz_mL M ∧ c.exceptionTable.toList.map (fun h => (h.startPc, h.endPc, h.handlerPc, h.catchType)) = rz_hd M ∧ meth.sig.returnType = rz_rt M ∧ meth.locks = false ∧ parseMethodDescriptor (rz_y M).desc = some meth.sig := by
  unfold rz_mok at hM
  simp only [Bool.and_eq_true] at hM
  obtain ⟨⟨⟨⟨⟨⟨⟨h1, -⟩, -⟩, -⟩, -⟩, -⟩, -⟩, -⟩ := hM
  split at h1
  · rename_i hh
    have hc := hts _ (rz_use (rz_wd_in h1) rfl)
    obtain ⟨mk, hn⟩ := Cond.code_named hc
    obtain ⟨meth, c, a1, a2, a3, a4, a5, a6, a7, a8⟩ := Cond.code_spec hn hc
    have h0 : c.exceptionTable.size = 0 := by simpa [Array.isEmpty] using a7
    have h2 : c.exceptionTable.toList = [] := List.eq_nil_of_length_eq_zero (by simpa using h0)
    exact ⟨mk, meth, c, hn, a1, a2, a3, a4, by rw [h2, hh]; rfl, a5, a6, a8⟩
  · rename_i hd tl hh
    have hc := hts _ (rz_use (rz_wd_in h1) rfl)
    obtain ⟨mk, meth, c, a0, a1, a2, a3, a4, a5, a6, a7, a8⟩ := Cond.codeWith_spec hc
    exact ⟨mk, meth, c, a0, a1, a2, a3, a4, by rw [a5, hh], a6, a7, a8⟩
