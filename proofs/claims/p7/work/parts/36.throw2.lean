set_option maxRecDepth 100000 in
theorem rz_len3s : (List.range 112).all (fun M => (rz_T M).all (fun e => match e.2 with
  | (3, _, len, _) => decide (len = 3)
  | _ => true)) = true := by decide +kernel
theorem rz_all3 {M pc len x y z : Nat} {ins : Instr} (h : rz_code M pc = some (3, ins, len, x, y, z)) : len = 3 :=
  of_decide_eq_true (List.all_eq_true.mp (List.all_eq_true.mp rz_len3s M (List.mem_range.mpr (rz_lt h))) (pc, (3, ins, len, x, y, z)) (rz_lookup h))
theorem rz_ok3 {M pc len x y z : Nat} {ins : Instr} (h : rz_ok M pc (3, ins, len, x, y, z) = true) : ∃ idx : Nat, decode (rz_by M) pc = .ok (.new idx, len) ∧ ins = .new idx ∧ x < 4 ∧ Cond.classLink (rz_y M).cls idx (rz_xn x) ∈ rz_tw ∧ (rz_y M).cls = "RowImprover" ∧ y = rz_icx x ∧ decode (rz_by M) (pc + 3) = .ok (.dup, 1) ∧ decode (rz_by M) (pc + 4) = .ok (.ldc z, 2) ∧ decode (rz_by M) (pc + 6) = .ok (.invokespecial y, 3) ∧ decode (rz_by M) (pc + 9) = .ok (.athrow, 1) ∧ (∃ tx, Cond.stringRef "RowImprover" z tx ∈ lw_tbl) ∧ rz_hd M = [] ∧ 6 ≤ rz_fr M ∧ 90 ≤ rz_lo M := by
  obtain ⟨h1, h2⟩ := Bool.and_eq_true_iff.mp h
  have h1 : decode (rz_by M) pc = .ok (ins, len) := of_decide_eq_true h1
  cases ins <;> first | exact absurd (show false = true from h2) (by decide) | skip
  obtain ⟨h2, a12⟩ := Bool.and_eq_true_iff.mp h2
  obtain ⟨h2, a11⟩ := Bool.and_eq_true_iff.mp h2
  obtain ⟨h2, a10⟩ := Bool.and_eq_true_iff.mp h2
  obtain ⟨h2, a9⟩ := Bool.and_eq_true_iff.mp h2
  obtain ⟨h2, a8⟩ := Bool.and_eq_true_iff.mp h2
  obtain ⟨h2, a7⟩ := Bool.and_eq_true_iff.mp h2
  obtain ⟨h2, a6⟩ := Bool.and_eq_true_iff.mp h2
  obtain ⟨h2, a5⟩ := Bool.and_eq_true_iff.mp h2
  obtain ⟨h2, a4⟩ := Bool.and_eq_true_iff.mp h2
  obtain ⟨h2, a3⟩ := Bool.and_eq_true_iff.mp h2
  obtain ⟨a1, a2⟩ := Bool.and_eq_true_iff.mp h2
  refine ⟨_, h1, rfl, of_decide_eq_true a1, rz_use (rz_wd_in a2) rfl, of_decide_eq_true a3, of_decide_eq_true a4, of_decide_eq_true a5, of_decide_eq_true a6, of_decide_eq_true a7, of_decide_eq_true a8, ?_, of_decide_eq_true a10, of_decide_eq_true a11, of_decide_eq_true a12⟩
  obtain ⟨w, hw, hs⟩ := List.any_eq_true.mp a9
  split at hs
  · rename_i o k tx
    simp only [Bool.and_eq_true, beq_iff_eq] at hs
    obtain ⟨rfl, rfl⟩ := hs
    exact ⟨tx, hw⟩
  · cases hs
set_option maxHeartbeats 4000000 in
set_option maxRecDepth 100000 in
theorem rz_throwW {p : Program} {l : Launch} {e : Env} {R : Room} {s : State} {m : MethodId} {args : Array Value} {below : List Frame} {meth : Method} {c : Code} {H : Heap} {locs : List Loc} {cells slots : Nat} {M : Nat} {A : Nat → Prop}
    (hl : l.stackTraces = false) (hx : p.tables.exec = Jvm.exec) (hb : c.code = rz_by M) (hml : c.maxLocals = rz_mL M) (hown : s.vm.findClass (rz_y M).cls = some m.cls) (hts : ∀ w ∈ rz_tw, w.before args s = true) (hX : rz_X A s s.heap) (hR : R = rz_rm M) (hlocks : meth.locks = false)
    (hh : c.exceptionTable.toList.map (fun h => (h.startPc, h.endPc, h.handlerPc, h.catchType)) = rz_hd M) (hk0 : ∀ a : Nat, a < s.heap.size → ¬ A a → H[a]? = s.heap[a]?) {pc len x y z : Nat} {ins : Instr} {ls : Array Slot} (hls : ls.size = rz_mL M)
    (hcd : rz_code M pc = some (3, ins, len, x, y, z)) (hce : cells + 1 ≤ R.cells) (hsl : slots + 6 ≤ R.slots) :
    W p l e R s m args below meth c H locs cells slots (fun t => ∃ (q : Addr) (ce : Cell), t.status = .running ∧ Ended t below (.threw q) ∧ s.WarmedH t.vm ∧ s.sameButNew ({ t with vm := s.vm } : State) locs (cells + 1) (slots + 6) ∧ t.heap[q]? = some ce ∧ ce.vm.isStatics = false ∧ s.vm.findClass (rz_xn x) = some ce.cls ∧ s.vm.assignable ce.cls ce.cls = true ∧ H.size ≤ t.heap.size ∧ ∀ a : Nat, a < H.size → t.heap[a]? = H[a]?) (F0 m pc ls []) := by
  obtain ⟨idx, d0, rfl, hx4, hcl, hcls, hyy, d3, d4, d6, d9, ⟨tx, htx⟩, hnil, hfr, hlo⟩ := rz_ok3 (rz_all hcd)
  have hlen : len = 3 := rz_all3 hcd
  subst hlen
  intro T hT X
  subst hT
  have Y := rz_rebase X (by omega) (by omega)
  have hws := rz_hws hts
  have htr : e.platform.stackTraces = false := by rw [Example.NoTraceControls.admits_follows X.admits]; exact hl
  generalize hs' : T.setFrames (.invoking m args :: below) = s' at Y
  have hvm : s'.vm = T.vm := by rw [← hs']; rfl
  have hheap : s'.heap = T.heap := by rw [← hs']; rfl
  have hW' : s.WarmedH s'.vm := by rw [hvm]; exact X.warmed
  have hX' : rz_X (fun _ => False) s' s'.heap := by
    rw [hheap]
    exact hX.go hW' hk0 (fun _ _ h => h.elim)
  have hown' : s'.vm.findClass "RowImprover" = some m.cls := by rw [← hcls, hW'.alike.findClass]; exact hown
  have hatoms : ∀ a ∈ Bundle.ownAtoms "RowImprover" y (rz_xn x) rz_names, a.before args s' = true := by
    intro a ha
    have h1 := List.all_eq_true.mp (rz_oa hx4 hyy) a ha
    simp only [Bool.or_eq_true, Bool.and_eq_true, decide_eq_true_eq] at h1
    rcases h1 with (((⟨h1, h2⟩ | rfl) | rfl) | rfl) | rfl
    · rcases h2 with h2 | h2
      · exact hws a (rz_use h1 h2) args s' hW'
      · have h3 := hX'.2.2.1 a h1 h2
        cases a <;> first | (simp [rz_isX] at h2; done) | exact va_tabs rfl rfl h3
    · exact hX'.1.lays
    · exact hX'.2.1.lays
    · exact hX'.1.isRef
    · exact hX'.2.1.isRef
  obtain ⟨hw1, hw2, hfit⟩ := rz_xw0 x hx4
  obtain ⟨vm₁, cX, kX, hfX, hkX, -, -, X₁, st1⟩ := Y.newCold hx (own := "RowImprover") (C := rz_xn x) (index := idx) (n := 6) hown' (by rw [← hcls]; exact hws _ hcl args s' hW') (hws _ (rz_use hw1 rfl) args s' hW') (hws _ (rz_use hw2 rfl) args s' hW')
    (g := F0 m pc ls []) rfl (by rw [hb]; exact d0) (by show 0 + 1 ≤ R.cells - cells; omega) (by show 0 + 6 ≤ R.slots - slots; omega)
  generalize hT1 : (T.setVm vm₁).pushCell { cls := cX, slots := kX.instanceTypes.map defaultValue, vm := .none } = T1 at X₁ st1
  have hcellA : T1.heap[T.heap.size]? = some (freshCell cX kX) := by rw [← hT1]; exact State.heap_pushCell_size _ _
  obtain ⟨sa0, hsa⟩ := hX'.2.2.2.1 _ _ _ htx
  have hconst : (Cond.stringRef "RowImprover" z tx).before args s' = true := hsa.1
  obtain ⟨-, -, -, sa, -, -, -, -, -, hev⟩ := Cond.stringRef_spec hown' hconst
  have hempty : c.exceptionTable.isEmpty = true := by
    rw [hnil] at hh
    have h1 : c.exceptionTable.toList = [] := List.map_eq_nil_iff.mp hh
    have h2 : c.exceptionTable = #[] := by
      apply Array.toList_inj.mp
      simpa using h1
    rw [h2]; rfl
  obtain ⟨U, hsteps, hrun, hend, hWU, hsame, ce, hce1, K⟩ := X₁.ctorThrowS hx htr (own := "RowImprover") (cls := rz_xn x) (names := rz_names) (ic := y) hown' hfit (by decide +kernel)
    hatoms (fun y9 hy9 => by cases hy9) hfX hkX hcellA (by rw [hheap]; exact Nat.le_refl _) (msg := .ref sa) rfl
    (g := F0 m (pc + 6) ls [.ref sa, .ref T.heap.size, .ref T.heap.size]) rfl (by rw [hml]; exact hls) rfl rfl (rest := []) rfl
    (by rw [hb]; exact d6) (by rw [hb]; exact d9) (covers_of_empty hempty _) (by show 2 + 3 < R.frames; rw [hR]; show 5 < rz_fr M; omega) (by rw [hR]; show 2 * 0 + 1 + 81 ≤ rz_lo M; omega) hlocks
  have hkeep : ∀ a : Nat, a < T.heap.size → U.heap[a]? = T.heap[a]? := fun a ha => by
    have h1 : s'.heap[a]? = some T.heap[a] := by rw [hheap]; exact Array.getElem?_eq_getElem ha
    have h2 := rz_same_nil hsame h1
    rw [show U.heap[a]? = ({ U with vm := s'.vm } : State).heap[a]? from rfl, h2, Array.getElem?_eq_getElem ha]
  have hTU : T.sameButNew (U.setVm T.vm) [] 1 6 := by
    obtain ⟨q1, q2, q3, q4, q5, q6⟩ := hsame
    rw [hvm] at q1
    rw [hheap] at q2 q3 q4 q5 q6
    refine ⟨?_, q2, q3, ?_, q5, q6⟩
    · refine (show U.setVm T.vm = ({ U with vm := T.vm } : State) from rfl).trans (q1.trans ?_)
      rw [← hs']
      show ({ (T.setFrames (.invoking m args :: below)).setFrames _ with heap := _, slotsUsed := _ } : State) = _
      rw [State.setFrames_setFrames]
      rfl
    · rw [← hs'] at q4
      exact q4
  refine ⟨U, ?_, T.heap.size, ce, hrun, hend, State.WarmedH.trans X.warmed ?_, ?_, hce1, by rw [K.vm]; rfl, ?_, ?_, ?_, hkeep⟩
  · refine st1 _ ?_
    show Steps p.tables e below (T1.setTop (F0 m (pc + 3) ls [.ref T.heap.size])) _
    have d3' : decode c.code (pc + 3) = .ok (.dup, 1) := by rw [hb]; exact d3
    jvm_step X₁.here [X₁.here.top, hx, d3', Value.category]
    exact X₁.ldcString hx (own := "RowImprover") (text := tx) (index := z) (a := sa) hown' hconst hev (g := F0 m (pc + 4) ls [.ref T.heap.size, .ref T.heap.size]) rfl (by rw [hb]; exact d4) _ hsteps
  · rw [← hs'] at hWU
    exact hWU
  · have h := X.same.trans (hTU.setVm s.vm)
    rw [List.append_nil] at h
    exact h
  · rw [← hW'.alike.findClass]; exact K.cls
  · rw [← hW'.alike.assignable]; exact K.self
  · have := hTU.2.1
    exact this
