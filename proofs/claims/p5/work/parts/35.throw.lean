/-! a throw: the walk is told anew from the state where it stands (nothing written since), then the library's law of a constructed exception -/
theorem rz_same_nil {s s' : State} {k n : Nat} (h : s.sameButNew s' [] k n) {q : Nat} {c : Cell} (hq : s.heap[q]? = some c) : s'.heap[q]? = some c := by
  obtain ⟨-, -, -, -, -, h6⟩ := h
  obtain ⟨c', h1, h2, h3, h4⟩ := h6 q c hq
  have hs : c'.slots = c.slots := by
    apply Array.ext_getElem?
    intro i
    exact h4 i (by simp)
  rw [h1, h2, hs]
theorem rz_rebase {p : Program} {l : Launch} {e : Env} {R : Room} {s : State} {m : MethodId} {args : Array Value} {below : List Frame} {meth : Method} {c : Code} {T : State} {locs : List Loc} {cells slots : Nat}
    (X : Stand p l e R s m args below meth c T locs cells slots) (hce : cells ≤ R.cells) (hsl : slots ≤ R.slots) :
    Stand p l e { frames := R.frames, cells := R.cells - cells, slots := R.slots - slots, locals := R.locals } (T.setFrames (.invoking m args :: below)) m args below meth c T [] 0 0 := by
  obtain ⟨g₀, hg0⟩ := Option.isSome_iff_exists.mp X.here.top
  obtain ⟨r, hr⟩ := State.topJava?_eq_some.mp hg0
  obtain ⟨th, hth, -⟩ := State.frames_cons hr
  have hcur : T.cur < T.threads.size := State.cur_lt_of_frames hr
  have hf' : (T.setFrames (.invoking m args :: below)).frames = .invoking m args :: below := State.frames_setFrames _ hcur
  have hback : (T.setFrames (.invoking m args :: below)).setFrames T.frames = T := by rw [State.setFrames_setFrames, State.setFrames_self hth]
  have hal : s.vm.Alike T.vm := X.warmed.alike
  refine ⟨X.admits, X.cas, X.clock, hf', ?_, ?_, X.method', X.code, X.here, X.tail, State.WarmedH.refl (T.setFrames (.invoking m args :: below)), ?_, ?_, ?_⟩
  · have h := X.room
    have h1 : (T.setFrames (.invoking m args :: below)).localsInUse = s.localsInUse := by
      rw [State.localsInUse_invoking hf' (meth := meth) (c := c) X.method' X.code, State.localsInUse_invoking X.frames X.method X.code]
    have h2 : (T.setFrames (.invoking m args :: below)).frames.length = s.frames.length := by rw [hf', X.frames]
    have h3 : e.platform.stackLimits (T.setFrames (.invoking m args :: below)).me = e.platform.stackLimits s.me := by rw [State.stackLimits_setFrames, X.limits]
    have h4 : (T.setFrames (.invoking m args :: below)).me.stackBytes = s.me.stackBytes := by rw [State.stackBytes_setFrames, X.bytes]
    have h5 : T.heap.size ≤ s.heap.size + cells := X.heapSize
    have h6 : T.slotsUsed ≤ s.slotsUsed + slots := X.used
    have h7 : (T.setFrames (.invoking m args :: below)).slotsTrue = true := X.book
    have h8 : (T.setFrames (.invoking m args :: below)).heap.size = T.heap.size := rfl
    have h9 : (T.setFrames (.invoking m args :: below)).slotsUsed = T.slotsUsed := rfl
    simp only [State.hasRoom, Bool.and_eq_true, decide_eq_true_eq] at h ⊢
    rw [h1, h2, h3, h4, h8, h9]
    refine ⟨⟨⟨h.1.1.1, ?_⟩, ?_⟩, h7⟩
    · have := h.1.1.2
      omega
    · have := h.1.2
      omega
  · have h := X.hears
    cases below with
    | nil =>
      simp only [State.hears] at h ⊢
      rw [show (T.setFrames (.invoking m args :: [])).vm.method? m = s.vm.method? m from by show T.vm.method? m = _; rw [hal.method?]]
      exact h
    | cons f fs =>
      cases f with
      | java g =>
        simp only [State.hears] at h ⊢
        rw [show (T.setFrames (.invoking m args :: .java g :: fs)).code? g.method = s.code? g.method from by rw [State.code?_eq, State.code?_eq]; show (T.vm.method? _).bind _ = _; rw [hal.method?]]
        exact h
      | _ =>
        first
          | rfl
          | (simp only [State.hears] at h ⊢
             first
               | exact h
               | (rw [show ∀ Z : List Frame, (T.setFrames Z).vm.method? m = s.vm.method? m from fun Z => by show T.vm.method? m = _; rw [hal.method?]]
                  exact h))
  · rw [State.stackLimits_setFrames]
  · rw [State.stackBytes_setFrames]
  · have ht' : ∃ t, (T.setFrames (.invoking m args :: below)).threads[(T.setFrames (.invoking m args :: below)).cur]? = some t := by
      obtain ⟨t, ht, -⟩ := State.frames_cons hf'
      exact ⟨t, ht⟩
    obtain ⟨t, ht⟩ := ht'
    have h := (State.sameButNew.refl (T.setFrames (.invoking m args :: below)) ht).setFrames T.frames (State.cur_lt_of_frames hf')
    rw [hback] at h
    exact h
def rz_oaw (x ic : Nat) : Bool := (Bundle.ownAtoms "RowImprover" ic (rz_xn x) rz_names).all (fun a => (decide (a ∈ lw_tbl) && (goodWord a || rz_isX a)) || decide (a = .laysStatic rz_tN "UNASSIGNED_STACK" "[Ljava/lang/StackTraceElement;") || decide (a = .laysStatic rz_tN "SUPPRESSED_SENTINEL" "Ljava/util/List;") || decide (a = .isRef (.static rz_tN "UNASSIGNED_STACK" "[Ljava/lang/StackTraceElement;")) || decide (a = .isRef (.static rz_tN "SUPPRESSED_SENTINEL" "Ljava/util/List;")))
set_option maxRecDepth 100000 in
theorem rz_oa0 : rz_oaw 0 54 = true := by decide +kernel
set_option maxRecDepth 100000 in
theorem rz_oa1 : rz_oaw 1 65 = true := by decide +kernel
set_option maxRecDepth 100000 in
theorem rz_oa2 : rz_oaw 2 82 = true := by decide +kernel
set_option maxRecDepth 100000 in
theorem rz_oa3 : rz_oaw 3 146 = true := by decide +kernel
def rz_icx (x : Nat) : Nat := match x with
  | 0 => 54
  | 1 => 65
  | 2 => 82
  | _ => 146
theorem rz_oa {x ic : Nat} (h : x < 4) (hi : ic = rz_icx x) : rz_oaw x ic = true := by
  subst hi
  match x, h with
  | 0, _ => exact rz_oa0
  | 1, _ => exact rz_oa1
  | 2, _ => exact rz_oa2
  | 3, _ => exact rz_oa3
theorem rz_xw0 : ∀ x, x < 4 → (Cond.instantiable (rz_xn x) 6 ∈ lw_tbl ∧ Cond.initialized (rz_xn x) ∈ lw_tbl ∧ Bundle.fit (rz_xn x) = true) := by decide +kernel
