/-! a handler is found: the rows ahead of it are passed, its own row takes the exception -/
set_option maxRecDepth 100000 in
theorem rz_hoks : (List.range 112).all (fun M => ((rz_hd M).zip (rz_hk M)).all (fun q => decide (Cond.classLink (rz_y M).cls q.1.2.2.2 (rz_xn q.2) ∈ lw_tbl) && decide (q.1.2.2.2 ≠ 0) && decide (q.2 < 4))) = true := by decide +kernel
section RZH
variable {Q : Handler → Pre} {E : CtlPost} {e : Env} {d : Bool} {acts : List Action} {S : State} {f : JFrame} {a : Addr}
theorem rz_go_take {x : ExceptionTableEntry} {t : List ExceptionTableEntry} {c : ClassId} {cell : Cell} (hx : covers x f.pc = true) (h0 : x.catchType ≠ 0)
    (hl : S.vm.ClassLinks e.platform f.method.cls x.catchType c) (hcell : S.heap[a]? = some cell) (hobj : ∀ k, cell.vm ≠ .statics k)
    (hk : ∃ k, S.vm.classes[cell.cls]? = some k) (hc : ∃ k, S.vm.classes[c]? = some k) :
    wp (findHandler.go f a (x :: t)) Q E e d acts S ↔ if S.vm.assignable cell.cls c = true then Q (.found x.handlerPc) d acts (S.setVm (S.vm.noted f.method.cls x.catchType (.cls c))) else wp (findHandler.go f a t) Q E e d acts (S.setVm (S.vm.noted f.method.cls x.catchType (.cls c))) := by
  simp only [covers] at hx
  obtain ⟨ha, ht⟩ := (resolveClass_links e.toSetting hl).op (op := VmOp.resolveClass f.method.cls x.catchType) rfl
  have hal : S.vm.Alike (S.vm.noted f.method.cls x.catchType (.cls c)) := (Vm.Alike.refl S.vm).noted _ _ _
  obtain ⟨k1, hk1⟩ := hk
  obtain ⟨k2, hk2⟩ := hc
  obtain ⟨k1', hk1', -⟩ := hal.2.2 _ _ hk1
  obtain ⟨k2', hk2', -⟩ := hal.2.2 _ _ hk2
  have has : (S.vm.noted f.method.cls x.catchType (.cls c)).assignable cell.cls c = S.vm.assignable cell.cls c := by rw [hal.assignable]
  cases hfit : S.vm.assignable cell.cls c <;> rw [hfit] at has <;>
    simp [findHandler.go, hx, h0, ha, ht, hcell, hobj, hk1', hk2', has, VmOp.dirties, VmOp.acts]
end RZH
theorem rz_find {e : Env} {s : State} {args : Array Value} {f : JFrame} {a : Addr} {cell : Cell} {k hp : Nat} {own : String} (hpl : e.platform.magicAccessors = ({} : Platform).magicAccessors) (hown : s.vm.findClass own = some f.method.cls) (hk4 : k < 4)
    (hobj : ∀ k, cell.vm ≠ .statics k) (hcls : s.vm.findClass (rz_xn k) = some cell.cls) (hself : s.vm.assignable cell.cls cell.cls = true)
    (hnc : ∀ i j : Nat, i < 4 → j < 4 → i ≠ j → ∀ c c' : ClassId, s.vm.findClass (rz_xn i) = some c → s.vm.findClass (rz_xn j) = some c' → s.vm.assignable c c' = false) :
    ∀ (tbl : List ExceptionTableEntry) (ks : List Nat) (S : State), (∀ q ∈ (tbl.map (fun h => (h.startPc, h.endPc, h.handlerPc, h.catchType))).zip ks, (Cond.classLink own q.1.2.2.2 (rz_xn q.2)).before args s = true ∧ q.1.2.2.2 ≠ 0 ∧ q.2 < 4) →
      rz_go (tbl.map (fun h => (h.startPc, h.endPc, h.handlerPc, h.catchType))) ks f.pc k = some hp → s.WarmedH S.vm → S.heap[a]? = some cell →
      ∃ vm', s.WarmedH vm' ∧ ∀ (Q : Handler → Pre) (E : CtlPost) (d : Bool) (acts : List Action), wp (findHandler.go f a tbl) Q E e d acts S ↔ Q (.found hp) d acts (S.setVm vm') := by
  obtain ⟨k0, hk0⟩ := Vm.classAt_of_findClass hcls
  intro tbl
  induction tbl with
  | nil => intro ks S _ hgo; cases ks <;> cases hgo
  | cons x t ih =>
    intro ks S hall hgo hW hcell
    cases ks with
    | nil => cases hgo
    | cons q ks =>
      rw [List.map_cons] at hall hgo
      obtain ⟨k0', hk0', -⟩ := hW.alike.2.2 _ _ hk0
      obtain ⟨hlink, hne, hq4⟩ := hall ((x.startPc, x.endPc, x.handlerPc, x.catchType), q) List.mem_cons_self
      dsimp only at hlink hne hq4
      have hrest := fun z hz => hall z (List.mem_cons_of_mem _ hz)
      rw [rz_go] at hgo
      dsimp only at hgo
      by_cases hcov : covers x f.pc = true
      · have hcov' : x.startPc ≤ f.pc ∧ f.pc < x.endPc := by simpa [covers] using hcov
        obtain ⟨c', hc', hcl⟩ := Cond.classLink_spec hown hlink e.platform hpl
        obtain ⟨dk, _, _, kt, hd, _, _, _, _, hkt, _, hopen⟩ := hcl.here
        obtain ⟨kt', hkt', -⟩ := hW.alike.2.2 _ _ hkt
        have hW' := hW.noted hd hopen (State.rightAt_cls hcl)
        by_cases hqk : q = k
        · subst hqk
          rw [if_pos ⟨hcov'.1, hcov'.2, rfl⟩] at hgo
          cases hgo
          cases hcls.symm.trans hc'
          refine ⟨_, hW', fun Q E d acts => ?_⟩
          rw [rz_go_take hcov hne (hW.classLinks hcl) hcell hobj ⟨k0', hk0'⟩ ⟨kt', hkt'⟩, if_pos (by rw [hW.alike.assignable]; exact hself)]
        · rw [if_neg (fun h => hqk h.2.2)] at hgo
          obtain ⟨vm', hW2, hq⟩ := ih ks (S.setVm (S.vm.noted f.method.cls x.catchType (.cls c'))) hrest hgo hW' hcell
          refine ⟨vm', hW2, fun Q E d acts => ?_⟩
          rw [rz_go_take hcov hne (hW.classLinks hcl) hcell hobj ⟨k0', hk0'⟩ ⟨kt', hkt'⟩, if_neg (by rw [hW.alike.assignable, hnc k q hk4 hq4 (fun h => hqk h.symm) _ _ hcls hc']; decide)]
          exact hq Q E d acts
      · have hcov' : covers x f.pc = false := by simpa using hcov
        rw [if_neg (fun h => hcov (by simp [covers, h.1, h.2.1]))] at hgo
        obtain ⟨vm', hW2, hq⟩ := ih ks S hrest hgo hW hcell
        exact ⟨vm', hW2, fun Q E d acts => by rw [W.findHandler_go_skip hcov']; exact hq Q E d acts⟩
theorem rz_caught {p : Program} {l : Launch} {e : Env} {R : Room} {s : State} {m : MethodId} {args : Array Value} {below : List Frame} {meth : Method} {c : Code} {T : State} {locs : List Loc} {cells slots : Nat}
    (X : Stand p l e R s m args below meth c T locs cells slots) {g : JFrame} (hg : g.method = m) {a : Addr} {cell : Cell} {k hp : Nat} {own : String} (hown : s.vm.findClass own = some m.cls) (hk4 : k < 4) (hcell : T.heap[a]? = some cell)
    (hobj : cell.vm.isStatics = false) (hcls : s.vm.findClass (rz_xn k) = some cell.cls) (hself : s.vm.assignable cell.cls cell.cls = true)
    (hnc : ∀ i j : Nat, i < 4 → j < 4 → i ≠ j → ∀ c c' : ClassId, s.vm.findClass (rz_xn i) = some c → s.vm.findClass (rz_xn j) = some c' → s.vm.assignable c c' = false)
    (ks : List Nat) (hall : ∀ q ∈ (c.exceptionTable.toList.map (fun h => (h.startPc, h.endPc, h.handlerPc, h.catchType))).zip ks, (Cond.classLink own q.1.2.2.2 (rz_xn q.2)).before args s = true ∧ q.1.2.2.2 ≠ 0 ∧ q.2 < 4)
    (hgo : rz_go (c.exceptionTable.toList.map (fun h => (h.startPc, h.endPc, h.handlerPc, h.catchType))) ks g.pc k = some hp) :
    ∃ vm', Stand p l e R s m args below meth c (T.setVm vm') locs cells slots ∧
      ∀ target, Steps p.tables e below ((T.setVm vm').setTop { g with pc := hp, stack := [.ref a] }) target → Steps p.tables e below ((T.setTop g).pushFrame (.throwing a)) target := by
  subst hg
  have hpl : e.platform.magicAccessors = ({} : Platform).magicAccessors := by rw [X.admits.platform]
  obtain ⟨vm', hW', hq⟩ := rz_find (f := g) (a := a) hpl hown hk4 (VmData.ne_statics_of hobj) hcls hself hnc c.exceptionTable.toList ks ((T.setTop g).pushFrame (.throwing a)) hall hgo X.warmed hcell
  refine ⟨vm', X.noted hW', fun target hrest => ?_⟩
  obtain ⟨hgoes, hw⟩ := X.here.throwing a
  refine Steps.head hgoes hw ?_
  have hfind : ∀ (Q : Handler → Pre) (E : CtlPost) (d : Bool) (acts : List Action), wp (findHandler g a) Q E e d acts ((T.setTop g).pushFrame (.throwing a)) ↔ Q (.found hp) d acts (((T.setTop g).pushFrame (.throwing a)).setVm vm') := fun Q E d acts => by
    rw [W.findHandler_eq (s := (T.setTop g).pushFrame (.throwing a)) (meth := meth) (code := c) X.method' X.code]
    exact hq Q E d acts
  have hstep : ∀ r, (stepThrowing e ((T.setTop g).pushFrame (.throwing a)) a (.java g :: r)).Is ((((T.setTop g).pushFrame (.throwing a)).setVm vm').setFrames (.java { g with pc := hp, stack := [.ref a] } :: r)) [] := by
    intro r
    simp only [stepThrowing, searchFrame, vmDo]
    generalize hr : Sem.go _ e false [] ((T.setTop g).pushFrame (.throwing a)) = res
    obtain ⟨as, rfl, ha⟩ := Sem.eq_ok_of hr (a := Handler.found hp) (s' := ((T.setTop g).pushFrame (.throwing a)).setVm vm') (acts' := []) (by simp [hfind _ _ _ _])
    exact ⟨rfl, ha⟩
  rw [stepThread_throwing (frames_entered X.here.top _), (hstep _).1]
  obtain ⟨g₀, hg0⟩ := Option.isSome_iff_exists.mp X.here.top
  obtain ⟨r, hr⟩ := State.topJava?_eq_some.mp hg0
  have hr' : (T.setVm vm').frames = .java g₀ :: r := hr
  rw [State.setTop_of_frames _ hr'] at hrest
  rw [hr]
  rw [State.setTop_of_frames _ hr, State.pushFrame, State.setFrames_setFrames]
  have hcm : ∀ Z Y : List Frame, ((T.setFrames Z).setVm vm').setFrames Y = (T.setVm vm').setFrames Y := fun Z Y => by
    rw [show (T.setFrames Z).setVm vm' = (T.setVm vm').setFrames Z from rfl, State.setFrames_setFrames]
  rw [hcm]
  exact hrest
