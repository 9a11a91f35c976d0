/-! how a state of the abstract machine lies in the machine's -/
def rz_v (ad : Nat → Nat) (v : Value) : Value := match v with
  | .ref i => .ref (ad i)
  | .int x => .int x
  | .long x => .long x
  | .float x => .float x
  | .double x => .double x
  | .null => .null
  | .retAddr x => .retAddr x
theorem rz_v_cat (ad : Nat → Nat) (v : Value) : (rz_v ad v).category = v.category := by cases v <;> rfl
def rz_e (cI cJ : ClassId) (ad : Nat → Nat) (c : va_E) : va_E := match c with
  | .inl q => .inl (if q.1 = 0 then cI else cJ, q.2)
  | .inr q => .inr (q.1, q.2.map (rz_v ad))
def rz_ws (cI cJ : ClassId) (ad : Nat → Nat) (w : rz_W) : va_W := w.mapIdx (fun i c => (ad i, rz_e cI cJ ad c))
theorem rz_ws_get {cI cJ : ClassId} {ad : Nat → Nat} {w : rz_W} {i : Nat} {c : va_E} (h : w[i]? = some c) : (rz_ws cI cJ ad w)[i]? = some (ad i, rz_e cI cJ ad c) := by
  simp [rz_ws, List.getElem?_mapIdx, h]
theorem rz_ws_set {cI cJ : ClassId} {ad : Nat → Nat} {w : rz_W} {i : Nat} {c : va_E} : rz_ws cI cJ ad (w.set i c) = (rz_ws cI cJ ad w).set i (ad i, rz_e cI cJ ad c) := by
  apply List.ext_getElem?
  intro j
  simp only [rz_ws, List.getElem?_mapIdx, List.getElem?_set, List.length_mapIdx]
  by_cases hj : i = j
  · subst hj
    by_cases hl : i < w.length
    · simp [hl]
    · simp [hl]
  · simp [hj]
theorem rz_ws_addr {cI cJ : ClassId} {ad : Nat → Nat} {w : rz_W} {k : Nat} {q : Nat × va_E} (h : (rz_ws cI cJ ad w)[k]? = some q) : k < w.length ∧ q.1 = ad k := by
  simp only [rz_ws, List.getElem?_mapIdx] at h
  cases hw : w[k]? with
  | none => rw [hw] at h; cases h
  | some c => rw [hw] at h; cases h; exact ⟨(List.getElem?_eq_some_iff.mp hw).1, rfl⟩
def rz_rm (M : Nat) : Room := { frames := rz_fr M, cells := rz_MC M, slots := rz_MS M, locals := rz_lo M }
def rz_Cx (p : Program) (R : Room) (s : State) (m : MethodId) (args : Array Value) (c : Code) (M : Nat) (D : va_G) (cI cJ : ClassId) (A : Nat → Prop) : Prop :=
  p.tables.exec = Jvm.exec ∧ c.code = rz_by M ∧ c.maxLocals = rz_mL M ∧ s.vm.findClass (rz_y M).cls = some m.cls ∧ (∀ w ∈ rz_tw, w.before args s = true) ∧ va_K D rz_cl [(cI, .int), (cJ, .long)] s ∧ (∀ q, s.heap.size ≤ q → A q) ∧ R = rz_rm M
def rz_Lr (ad : Nat → Nat) (ls : Array Slot) (nL : Nat) (L : rz_L) : Prop := ls.size = nL ∧ lv_wf ls ∧ L.length = nL ∧ ∀ (i : Nat) (v : Value), L[i]? = some (some v) → v.category = 1 ∧ ls[i]? = some (.val (rz_v ad v))
def rz_lp (ad : Nat → Nat) (L : rz_L) : List (Nat × Value) := (List.range L.length).filterMap (fun i => match L[i]? with
  | some (some v) => some (i, rz_v ad v)
  | _ => none)
theorem rz_lp_mem {ad : Nat → Nat} {L : rz_L} {q : Nat × Value} : q ∈ rz_lp ad L ↔ ∃ v, L[q.1]? = some (some v) ∧ q.2 = rz_v ad v := by
  constructor
  · intro h
    obtain ⟨i, -, h2⟩ := List.mem_filterMap.mp h
    split at h2
    · rename_i v hv
      cases h2
      exact ⟨v, hv, rfl⟩
    · cases h2
  · rintro ⟨v, h1, h2⟩
    refine List.mem_filterMap.mpr ⟨q.1, List.mem_range.mpr (List.getElem?_eq_some_iff.mp h1).1, ?_⟩
    obtain ⟨i, u⟩ := q
    dsimp only at h1 h2 ⊢
    rw [h1, h2]
theorem rz_Lr.has {ad : Nat → Nat} {ls : Array Slot} {nL : Nat} {L : rz_L} (h : rz_Lr ad ls nL L) : lv_has ls nL (rz_lp ad L) :=
  ⟨h.1, h.2.1, fun q hq => by
    obtain ⟨v, h1, h2⟩ := rz_lp_mem.mp hq
    rw [h2]
    exact (h.2.2.2 q.1 v h1).2⟩
theorem rz_Lr.store {ad : Nat → Nat} {ls ls' : Array Slot} {nL i : Nat} {L : rz_L} {v : Value} (h : rz_Lr ad ls nL L) (hc : v.category = 1)
    (h' : lv_has ls' nL ((i, rz_v ad v) :: (rz_lp ad L).filter (fun q => !(q.1 == i) && !(q.1 + 1 == i && q.2.category == 2)))) : rz_Lr ad ls' nL (L.set i (some v)) := by
  refine ⟨h'.1, h'.2.1, by rw [List.length_set]; exact h.2.2.1, fun j u hj => ?_⟩
  rw [List.getElem?_set] at hj
  by_cases hij : i = j
  · rw [if_pos hij] at hj
    split at hj
    · cases hj
      subst hij
      exact ⟨hc, h'.2.2 _ List.mem_cons_self⟩
    · cases hj
  · rw [if_neg hij] at hj
    have h1 := h.2.2.2 j u hj
    refine ⟨h1.1, h'.2.2 (j, rz_v ad u) (List.mem_cons_of_mem _ (List.mem_filter.mpr ⟨rz_lp_mem.mpr ⟨u, hj, rfl⟩, ?_⟩))⟩
    have h2 : (rz_v ad u).category = 1 := by rw [rz_v_cat]; exact h1.1
    simp [h2, Ne.symm hij]
theorem rz_Lr.drop {ad : Nat → Nat} {ls ls' : Array Slot} {nL i : Nat} {L : rz_L} {u0 : Value} (h : rz_Lr ad ls nL L)
    (h' : lv_has ls' nL ((i, u0) :: (rz_lp ad L).filter (fun q => !(q.1 == i) && !(q.1 + 1 == i && q.2.category == 2)))) : rz_Lr ad ls' nL (L.set i none) := by
  refine ⟨h'.1, h'.2.1, by rw [List.length_set]; exact h.2.2.1, fun j u hj => ?_⟩
  rw [List.getElem?_set] at hj
  by_cases hij : i = j
  · rw [if_pos hij] at hj
    split at hj <;> cases hj
  · rw [if_neg hij] at hj
    have h1 := h.2.2.2 j u hj
    refine ⟨h1.1, h'.2.2 (j, rz_v ad u) (List.mem_cons_of_mem _ (List.mem_filter.mpr ⟨rz_lp_mem.mpr ⟨u, hj, rfl⟩, ?_⟩))⟩
    have h2 : (rz_v ad u).category = 1 := by rw [rz_v_cat]; exact h1.1
    simp [h2, Ne.symm hij]
