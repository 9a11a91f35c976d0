/-! a call: the step into the callee, and the way back by its contract, returned or thrown -/
section RZC
variable {p : Program} {l : Launch} {e : Env} {R : Room} {s : State} {m : MethodId} {args : Array Value} {below : List Frame} {meth : Method} {c : Code} {T U : State} {locs : List Loc} {cells slots : Nat}
variable {M : Nat} {D : va_G} {cI cJ : ClassId} {ad : Nat → Nat}
theorem rz_hws (hts : ∀ w ∈ rz_tw, w.before args s = true) : ∀ w ∈ rz_tw, ∀ (a' : Array Value) (V : State), s.WarmedH V.vm → w.before a' V = true :=
  fun w hw _ _ hW => word_at hW (good_of_word (List.mem_filter.mp hw).2) (hts w hw)
theorem rz_mok_ini {x : Nat} (h : rz_mok x = true) : Cond.initialized (rz_y x).cls ∈ rz_tw ∧ ((rz_y x).cls ≠ "java/lang/invoke/MethodHandle" ∧ (rz_y x).cls ≠ "java/lang/invoke/VarHandle") ∧ Jvm.plainName (rz_y x).cls = true ∧ rz_na x ≤ rz_mL x := by
  unfold rz_mok at h
  simp only [Bool.and_eq_true, decide_eq_true_eq] at h
  obtain ⟨⟨⟨⟨⟨⟨-, h1⟩, h2⟩, h3⟩, h4⟩, h5⟩, -⟩ := h
  exact ⟨rz_use (rz_wd_in h1) rfl, ⟨h2, h3⟩, h4, h5⟩
theorem rz_mok_st {x : Nat} (h : rz_mok x = true) (hs : rz_st x = true) : Cond.static (rz_y x) ∈ rz_tw ∧ (parseMethodDescriptor (rz_y x).desc).map (fun d => d.parameters.length) = some (rz_na x) := by
  unfold rz_mok at h
  simp only [Bool.and_eq_true, decide_eq_true_eq] at h
  obtain ⟨⟨⟨⟨⟨⟨⟨-, h1⟩, -⟩, -⟩, -⟩, -⟩, -⟩, -⟩ := h
  rw [if_pos hs] at h1
  simp only [Bool.and_eq_true, decide_eq_true_eq] at h1
  exact ⟨rz_use (rz_wd_in h1.1) rfl, h1.2⟩
theorem rz_mok_vi {x : Nat} (h : rz_mok x = true) (hs : rz_st x = false) : Cond.instanceMethod (rz_y x) ∈ rz_tw ∧ Cond.selects (rz_y x).cls (rz_y x) (rz_y x) ∈ rz_tw ∧ (rz_cl[rz_rc x]?).map (fun q => q.1) = some (rz_y x).cls ∧ (parseMethodDescriptor (rz_y x).desc).map (fun d => d.parameters.length + 1) = some (rz_na x) := by
  unfold rz_mok at h
  simp only [Bool.and_eq_true, decide_eq_true_eq] at h
  obtain ⟨⟨⟨⟨⟨⟨⟨-, h1⟩, -⟩, -⟩, -⟩, -⟩, -⟩, -⟩ := h
  rw [if_neg (by rw [hs]; decide)] at h1
  simp only [Bool.and_eq_true, decide_eq_true_eq] at h1
  obtain ⟨⟨⟨a1, a2⟩, a3⟩, a4⟩ := h1
  exact ⟨rz_use (rz_wd_in a1) rfl, rz_use (rz_wd_in a2) rfl, a3, a4⟩
theorem rz_invS (X : Stand p l e R s m args below meth c T locs cells slots) (hexec : p.tables.exec = Jvm.exec) {own : String} {index x pc : Nat} (hx : rz_mok x = true) (hst : rz_st x = true) (hts : ∀ w ∈ rz_tw, w.before args s = true)
    (hown : s.vm.findClass own = some m.cls) (hlink : (Cond.methodLink own index (rz_y x)).before args s = true) {ls : Array Slot} {av rest : List Value} (hn : av.length = rz_na x)
    (hdg : decode c.code pc = .ok (.invokestatic index, 3)) :
    ∃ (mk : MethodId) (vm₁ : Vm), s.methodNamed? (rz_y x) = some mk ∧ Stand p l e R s m args below meth c (T.setVm vm₁) locs cells slots ∧
      ∀ target, Steps p.tables e below (doInvoke e ((T.setVm vm₁).setTop (F0 m pc ls rest)) [] mk av.toArray).1 target → Steps p.tables e below (T.setTop (F0 m pc ls (av.reverse ++ rest))) target := by
  obtain ⟨mk, methM, cM, hnamed, hmethM, -, -, -, -, -, -, hsigM⟩ := rz_codeS hx hts
  obtain ⟨hini, hy, -, -⟩ := rz_mok_ini hx
  obtain ⟨hstw, hlen⟩ := rz_mok_st hx hst
  have hstatic : methM.isStatic = true := Cond.static_spec hnamed hmethM (hts _ hstw)
  obtain ⟨kP, hkP, -⟩ := className_of_methodNamed hnamed
  have hinitP : kP.init = .initialized := Cond.initialized_spec (findClass_of_methodNamed hnamed) hkP (hts _ hini)
  rw [hsigM] at hlen
  obtain ⟨vm₁, X₁, hstep₁⟩ := X.invokestatic hexec hown hlink hnamed hmethM hstatic hkP hinitP hy (g := F0 m pc ls (av.reverse ++ rest)) rfl (argsL := av) (rest := rest) (hn.trans (Option.some.inj hlen).symm) rfl hdg
  exact ⟨mk, vm₁, hnamed, X₁, fun target h => hstep₁ _ fun acts => by rw [doInvoke_state] at h ⊢; exact h⟩
theorem rz_invV (X : Stand p l e R s m args below meth c T locs cells slots) (hexec : p.tables.exec = Jvm.exec) {own : String} {index x pc : Nat} (hx : rz_mok x = true) (hst : rz_st x = false) (hts : ∀ w ∈ rz_tw, w.before args s = true)
    (hown : s.vm.findClass own = some m.cls) (hlink : (Cond.methodLink own index (rz_y x)).before args s = true) {ls : Array Slot} {b : Addr} {cellB : Cell} (hcell : T.heap[b]? = some cellB) (hobj : cellB.vm.isStatics = false) (hcls : s.vm.findClass (rz_y x).cls = some cellB.cls)
    {av rest : List Value} (hn : av.length + 1 = rz_na x) (hdg : decode c.code pc = .ok (.invokevirtual index, 3)) :
    ∃ (mk : MethodId) (vm₁ : Vm), s.methodNamed? (rz_y x) = some mk ∧ Stand p l e R s m args below meth c (T.setVm vm₁) locs cells slots ∧
      ∀ target, Steps p.tables e below (doInvoke e ((T.setVm vm₁).setTop (F0 m pc ls rest)) [] mk (Value.ref b :: av).toArray).1 target → Steps p.tables e below (T.setTop (F0 m pc ls (av.reverse ++ .ref b :: rest))) target := by
  obtain ⟨mk, methM', cM, hnamed, hmethM', -, -, -, -, -, -, hsigM⟩ := rz_codeS hx hts
  obtain ⟨hini, hy, -, -⟩ := rz_mok_ini hx
  obtain ⟨hiw, hsw, -, hlen⟩ := rz_mok_vi hx hst
  obtain ⟨mk', methM, hnamed', hmethM, hstM, habM⟩ := Cond.instanceMethod_spec (hts _ hiw)
  cases hnamed.symm.trans hnamed'
  cases hmethM.symm.trans hmethM'
  obtain ⟨c2, r2, m2, q1, q2, q3, q4, kP, hkP, hkPi⟩ := Cond.selects_spec (hts _ hsw)
  cases hcls.symm.trans q1
  cases (State.methodFound?_of_named hnamed hy).symm.trans q2
  cases hnamed.symm.trans q3
  have hselP : selectMethod e.platform s.vm cellB.cls mk = .method mk := by rw [Launch.admits_selectMethod X.admits]; exact q4
  rw [hsigM] at hlen
  have hlen' : av.length = methM'.sig.parameters.length := by
    have h9 : methM'.sig.parameters.length + 1 = rz_na x := Option.some.inj hlen
    omega
  obtain ⟨vm₁, X₁, hstep₁⟩ := X.invokevirtual hexec hown hlink hnamed hmethM hstM hkP hkPi hy (a := b) (cell := cellB) hcell
    (fun z h => by rw [h] at hobj; cases hobj) hselP hmethM habM hkP hkPi (g := F0 m pc ls (av.reverse ++ .ref b :: rest)) rfl (argsL := av) (rest := rest) hlen' rfl hdg
  exact ⟨mk, vm₁, hnamed, X₁, fun target h => hstep₁ _ fun acts => by rw [doInvoke_state] at h ⊢; exact h⟩
set_option maxHeartbeats 2000000 in
/-- the way back by a contract -/
theorem rz_back (X : Stand p l e R s m args below meth c U locs cells slots) (hts : ∀ w ∈ rz_tw, w.before args s = true) {x : Nat} (hmx : rz_mok x = true) {av : List Value} {w w' : rz_W} {r : rz_R} (hM : rz_Met l x D cI cJ ad av w r w')
    {mk : MethodId} (hn : s.methodNamed? (rz_y x) = some mk) {g : JFrame} {ig : Instr} {len : Nat} (hg : g.method = m) (hsize : g.locals.size = c.maxLocals) (hdg : decode c.code g.pc = .ok (ig, len))
    (hW : 2 * g.monitorRoom + (g.stack.map fun v => v.category).sum ≤ 8) (hfr : rz_fr x + 1 ≤ R.frames) (hlo : 8 + (rz_mL x + 11) + rz_lo x ≤ R.locals) (hce : cells + rz_MC x ≤ R.cells) (hsl : slots + rz_MS x ≤ R.slots)
    (hP : rz_Pc D cI cJ ad av w (av.map (rz_v ad)).toArray (U.calling g mk (av.map (rz_v ad)).toArray)) :
    ∃ (o : Outcome) (t B : State) (Ls : List Loc), rz_Qc x D cI cJ ad w r w' (av.map (rz_v ad)).toArray (U.calling g mk (av.map (rz_v ad)).toArray) o t ∧ B.heap = t.heap ∧ B.vm = t.vm ∧ (∀ q ∈ Ls, va_A (rz_ws cI cJ ad w) U.heap.size q.base) ∧
      Stand p l e R s m args below meth c B (locs ++ Ls) (cells + rz_MC x) (slots + rz_MS x) ∧
      (∀ v, o = .returned v → Steps p.tables e below (doInvoke e (U.setTop g) [] mk (av.map (rz_v ad)).toArray).1 (B.setTop { g with pc := g.pc + len, stack := v.toList ++ g.stack })) ∧
      (∀ q, o = .threw q → Steps p.tables e below (doInvoke e (U.setTop g) [] mk (av.map (rz_v ad)).toArray).1 ((B.setTop g).pushFrame (.throwing q))) := by
  have hws := rz_hws hts
  obtain ⟨hini, -, -, -⟩ := rz_mok_ini hmx
  obtain ⟨mk', methY, cY, hn', hmY0, hcY, -, hlY, -⟩ := rz_codeS hmx hts
  cases hn.symm.trans hn'
  have hnU : U.methodNamed? (rz_y x) = some mk := X.named hn
  obtain ⟨mk2, methY2, cY2, hn2, hmY, hcY2, -, hlY2, -⟩ := rz_codeS (args := (av.map (rz_v ad)).toArray) (s := U) hmx (fun w hw => hws w hw _ _ X.warmed)
  cases hnU.symm.trans hn2
  obtain ⟨kY, hkY, -⟩ := className_of_methodNamed hnU
  have hinitY : kY.init = .initialized := Cond.initialized_spec (findClass_of_methodNamed hnU) hkY (hws _ hini (av.map (rz_v ad)).toArray U X.warmed)
  have h : At U g.method c below := by rw [hg]; exact X.here
  have happ : (headSpec rz_tw (rz_rm x)).appliesLoose (rz_y x) e.platform (U.calling g mk (av.map (rz_v ad)).toArray) = true :=
    Spec.appliesLoose_calling (g := g) h hdg hnU hkY hinitY
      (X.room_calling (g := g) (R' := rz_rm x) hsize hmY hcY2 hfr (by rw [hlY2]; show _ + rz_lo x ≤ _; omega) hce hsl) (atoms_intro fun w hw => hws w hw _ _ X.warmed)
  obtain ⟨mid, hmid⟩ := h.above
  have hfrm : (U.setTop g).frames = (.java g :: mid) ++ below := by rw [State.frames_setTop' g h.top, hmid]; rfl
  obtain ⟨o, t, hsteps, -, hend, hq⟩ := Steps.callFree hM p X.admits X.cas X.clock (acts := []) hfrm happ hP trivial
  have hq' : rz_Qc x D cI cJ ad w r w' (av.map (rz_v ad)).toArray (U.calling g mk (av.map (rz_v ad)).toArray) o t := hq
  rw [State.frames_setTop' g h.top] at hend
  obtain ⟨-, -, hW2, -, ⟨Ls, hsame, hLs⟩, -⟩ := id hq'
  have hW' : U.WarmedH t.vm := hW2
  obtain ⟨e2, q2, q3, q4, q5, q6⟩ := id hsame
  have e3 : t = ({ (U.calling g mk (av.map (rz_v ad)).toArray).setFrames t.frames with heap := t.heap, slotsUsed := t.slotsUsed } : State).setVm t.vm := by
    have : t = ({ t with vm := (U.calling g mk (av.map (rz_v ad)).toArray).vm } : State).setVm t.vm := rfl
    rw [e2] at this
    exact this
  obtain ⟨g₀, hg0⟩ := Option.isSome_iff_exists.mp h.top
  obtain ⟨fr, hfr0⟩ := State.topJava?_eq_some.mp hg0
  have hsameU : U.sameButNew ({ U with heap := t.heap, slotsUsed := t.slotsUsed } : State) Ls (rz_MC x) (rz_MS x) := by
    refine ⟨?_, q2, q3, q4, q5, q6⟩
    obtain ⟨th, hth, -⟩ := State.frames_cons hfr0
    show ({ U with heap := t.heap, slotsUsed := t.slotsUsed } : State) = { U.setFrames U.frames with heap := t.heap, slotsUsed := t.slotsUsed }
    rw [State.setFrames_self hth]
  have hrB : (({ U with heap := t.heap, slotsUsed := t.slotsUsed } : State).setVm t.vm).frames = .java g₀ :: fr := hfr0
  subst hg
  refine ⟨o, t, (({ U with heap := t.heap, slotsUsed := t.slotsUsed } : State).setVm t.vm), Ls, hq', rfl, rfl, hLs,
    ⟨X.admits, X.cas, X.clock, X.frames, X.room, X.hears, X.method, X.code, (X.here.setHeapUsed t.heap t.slotsUsed).setVm hW'.alike, X.tail, State.WarmedH.trans X.warmed hW', X.limits, X.bytes, X.same.trans (hsameU.setVm s.vm)⟩, ?_, ?_⟩
  · intro v hv
    subst hv
    obtain ⟨c₂, i₂, len₂, hc₂, hd₂, hf₂⟩ := hend
    have hcc : c₂ = c := by
      have h1 : t.code? g.method = U.code? g.method := by
        rw [State.code?_eq, State.code?_eq, hW'.alike.method?]
      exact Option.some.inj (hc₂.symm.trans (h1.trans h.code))
    subst hcc
    have hlen : len₂ = len := by rw [hdg] at hd₂; cases hd₂; rfl
    subst hlen
    have hs₂ : t = (({ U with heap := t.heap, slotsUsed := t.slotsUsed } : State).setVm t.vm).setTop { g with pc := g.pc + len₂, stack := v.toList ++ g.stack } := by
      refine e3.trans ?_
      rw [hf₂, State.calling_eq h.top, State.setFrames_setFrames, State.setTop_of_frames _ hrB, hfr0]
      rfl
    rw [← hs₂]
    exact hsteps
  · intro q hv
    subst hv
    have hend' : t.frames = .throwing q :: (.java g :: U.frames.tail) := hend
    have hs₂ : t = ((({ U with heap := t.heap, slotsUsed := t.slotsUsed } : State).setVm t.vm).setTop g).pushFrame (.throwing q) := by
      refine e3.trans ?_
      rw [hend', State.calling_eq h.top, State.setFrames_setFrames, State.setTop_of_frames _ hrB, State.pushFrame, State.setFrames_setFrames, State.frames_setFrames _ (State.cur_lt_of_frames hrB), hfr0]
      rfl
    rw [← hs₂]
    exact hsteps
end RZC
