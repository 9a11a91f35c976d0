/-! how a state of the abstract machine lies in the machine's -/
def rz_v (ad : Nat → Nat) (v : Value) : Value := match v with
  | .ref i => .ref (ad i)
  | .int x => .int x
  | .long x => .long x
  | .float x => .float x
  | .double x => .double x
  | .null => .null
  | .retAddr x => .retAddr x
theorem rz_v_cat (ad : Nat → Nat) (v : Value) : (rz_v ad v).category = v.category := by cases v <;> rfl
def rz_e (cI cJ : ClassId) (ad : Nat → Nat) (c : va_E) : va_E := match c with
  | .inl q => .inl (if q.1 = 0 then cI else cJ, q.2)
  | .inr q => .inr (q.1, q.2.map (rz_v ad))
def rz_ws (cI cJ : ClassId) (ad : Nat → Nat) (w : rz_W) : va_W := w.mapIdx (fun i c => (ad i, rz_e cI cJ ad c))
theorem rz_ws_get {cI cJ : ClassId} {ad : Nat → Nat} {w : rz_W} {i : Nat} {c : va_E} (h : w[i]? = some c) : (rz_ws cI cJ ad w)[i]? = some (ad i, rz_e cI cJ ad c) := by
  simp [rz_ws, List.getElem?_mapIdx, h]
theorem rz_ws_set {cI cJ : ClassId} {ad : Nat → Nat} {w : rz_W} {i : Nat} {c : va_E} : rz_ws cI cJ ad (w.set i c) = (rz_ws cI cJ ad w).set i (ad i, rz_e cI cJ ad c) := by
  apply List.ext_getElem?
  intro j
  simp only [rz_ws, List.getElem?_mapIdx, List.getElem?_set, List.length_mapIdx]
  by_cases hj : i = j
  · subst hj
    by_cases hl : i < w.length
    · simp [hl]
    · simp [hl]
  · simp [hj]
theorem rz_ws_addr {cI cJ : ClassId} {ad : Nat → Nat} {w : rz_W} {k : Nat} {q : Nat × va_E} (h : (rz_ws cI cJ ad w)[k]? = some q) : k < w.length ∧ q.1 = ad k := by
  simp only [rz_ws, List.getElem?_mapIdx] at h
  cases hw : w[k]? with
  | none => rw [hw] at h; cases h
  | some c => rw [hw] at h; cases h; exact ⟨(List.getElem?_eq_some_iff.mp hw).1, rfl⟩
def rz_rm (M : Nat) : Room := { frames := rz_fr M, cells := rz_MC M, slots := rz_MS M, locals := rz_lo M }
def rz_Cx (p : Program) (R : Room) (s : State) (m : MethodId) (args : Array Value) (c : Code) (M : Nat) (D : va_G) (cI cJ : ClassId) (A : Nat → Prop) : Prop :=
  p.tables.exec = Jvm.exec ∧ c.code = rz_by M ∧ c.maxLocals = rz_mL M ∧ s.vm.findClass (rz_y M).cls = some m.cls ∧ (∀ w ∈ rz_tw, w.before args s = true) ∧ va_K D rz_cl [(cI, .int), (cJ, .long)] s ∧ (∀ q, s.heap.size ≤ q → A q) ∧ R = rz_rm M
def rz_Lr (ad : Nat → Nat) (ls : Array Slot) (nL : Nat) (L : rz_L) : Prop := ls.size = nL ∧ lv_wf ls ∧ L.length = nL ∧ ∀ (i : Nat) (v : Value), L[i]? = some (some v) → v.category = 1 ∧ ls[i]? = some (.val (rz_v ad v))
def rz_lp (ad : Nat → Nat) (L : rz_L) : List (Nat × Value) := (List.range L.length).filterMap (fun i => match L[i]? with
  | some (some v) => some (i, rz_v ad v)
  | _ => none)
theorem rz_lp_mem {ad : Nat → Nat} {L : rz_L} {q : Nat × Value} : q ∈ rz_lp ad L ↔ ∃ v, L[q.1]? = some (some v) ∧ q.2 = rz_v ad v := by
  constructor
  · intro h
    obtain ⟨i, -, h2⟩ := List.mem_filterMap.mp h
    split at h2
    · rename_i v hv
      cases h2
      exact ⟨v, hv, rfl⟩
    · cases h2
  · rintro ⟨v, h1, h2⟩
    refine List.mem_filterMap.mpr ⟨q.1, List.mem_range.mpr (List.getElem?_eq_some_iff.mp h1).1, ?_⟩
    obtain ⟨i, u⟩ := q
    dsimp only at h1 h2 ⊢
    rw [h1, h2]
theorem rz_Lr.has {ad : Nat → Nat} {ls : Array Slot} {nL : Nat} {L : rz_L} (h : rz_Lr ad ls nL L) : lv_has ls nL (rz_lp ad L) :=
  ⟨h.1, h.2.1, fun q hq => by
    obtain ⟨v, h1, h2⟩ := rz_lp_mem.mp hq
    rw [h2]
    exact (h.2.2.2 q.1 v h1).2⟩
theorem rz_Lr.store {ad : Nat → Nat} {ls ls' : Array Slot} {nL i : Nat} {L : rz_L} {v : Value} (h : rz_Lr ad ls nL L) (hc : v.category = 1)
    (h' : lv_has ls' nL ((i, rz_v ad v) :: (rz_lp ad L).filter (fun q => !(q.1 == i) && !(q.1 + 1 == i && q.2.category == 2)))) : rz_Lr ad ls' nL (L.set i (some v)) := by
  refine ⟨h'.1, h'.2.1, by rw [List.length_set]; exact h.2.2.1, fun j u hj => ?_⟩
  rw [List.getElem?_set] at hj
  by_cases hij : i = j
  · rw [if_pos hij] at hj
    split at hj
    · cases hj
      subst hij
      exact ⟨hc, h'.2.2 _ List.mem_cons_self⟩
    · cases hj
  · rw [if_neg hij] at hj
    have h1 := h.2.2.2 j u hj
    refine ⟨h1.1, h'.2.2 (j, rz_v ad u) (List.mem_cons_of_mem _ (List.mem_filter.mpr ⟨rz_lp_mem.mpr ⟨u, hj, rfl⟩, ?_⟩))⟩
    have h2 : (rz_v ad u).category = 1 := by rw [rz_v_cat]; exact h1.1
    simp [h2, Ne.symm hij]
theorem rz_Lr.drop {ad : Nat → Nat} {ls ls' : Array Slot} {nL i : Nat} {L : rz_L} {u0 : Value} (h : rz_Lr ad ls nL L)
    (h' : lv_has ls' nL ((i, u0) :: (rz_lp ad L).filter (fun q => !(q.1 == i) && !(q.1 + 1 == i && q.2.category == 2)))) : rz_Lr ad ls' nL (L.set i none) := by
  refine ⟨h'.1, h'.2.1, by rw [List.length_set]; exact h.2.2.1, fun j u hj => ?_⟩
  rw [List.getElem?_set] at hj
  by_cases hij : i = j
  · rw [if_pos hij] at hj
    split at hj <;> cases hj
  · rw [if_neg hij] at hj
    have h1 := h.2.2.2 j u hj
    refine ⟨h1.1, h'.2.2 (j, rz_v ad u) (List.mem_cons_of_mem _ (List.mem_filter.mpr ⟨rz_lp_mem.mpr ⟨u, hj, rfl⟩, ?_⟩))⟩
    have h2 : (rz_v ad u).category = 1 := by rw [rz_v_cat]; exact h1.1
    simp [h2, Ne.symm hij]
/-! a pure instruction of the abstract machine is the machine's step -/
section RZP
variable {p : Program} {l : Launch} {e : Env} {R : Room} {s : State} {m : MethodId} {args : Array Value} {below : List Frame} {meth : Method} {c : Code} {H : Heap} {locs : List Loc} {cells slots : Nat} {Q : State → Prop}
variable {M : Nat} {D : va_G} {cI cJ : ClassId} {ad : Nat → Nat} {A : Nat → Prop}
theorem rz_cmp_t {c : Jvm.ClassFile.Cond} {a b : Int32} {x y : Nat} (h : rz_cmp c a b = true) : (if rz_cmp c a b = true then x else y) = x := if_pos h
theorem rz_cmp_f {c : Jvm.ClassFile.Cond} {a b : Int32} {x y : Nat} (h : ¬ rz_cmp c a b = true) : (if rz_cmp c a b = true then x else y) = y := if_neg h
theorem rz_tg_eq {pc : Nat} {off : Int} (h : 0 ≤ (pc : Int) + off) : (pc : Int) + off = ((rz_tg pc off : Nat) : Int) := by
  unfold rz_tg; omega
set_option maxHeartbeats 4000000 in
theorem rz_branch1 {cc : ByteArray} {pc tgt : Nat} {ls : Array Slot} {rest : List Value} {off : Int} {cd : Jvm.ClassFile.Cond} {a : Int32} (hx : p.tables.exec = Jvm.exec) (hb : c.code = cc) (hdg : decode cc pc = .ok (.ifCond cd off, 3)) (ht : (pc : Int) + off = (tgt : Int))
    (kk : W p l e R s m args below meth c H locs cells slots Q (F0 m (if rz_cmp cd a 0 = true then tgt else pc + 3) ls rest)) : W p l e R s m args below meth c H locs cells slots Q (F0 m pc ls (.int a :: rest)) := by
  cases cd
  all_goals first
    | exact lv_if_eq hx hb hdg ht (fun h => by rwa [if_pos (by simpa [rz_cmp] using h)] at kk) (fun h => by rwa [if_neg (by simpa [rz_cmp] using h)] at kk)
    | exact lv_if_ne hx hb hdg ht (fun h => by rwa [if_pos (by simpa [rz_cmp] using h)] at kk) (fun h => by rwa [if_neg (by simpa [rz_cmp] using h)] at kk)
    | exact lv_if_lt hx hb hdg ht (fun h => by rwa [if_pos (by simpa [rz_cmp] using h)] at kk) (fun h => by rwa [if_neg (by simpa [rz_cmp] using h)] at kk)
    | exact lv_if_ge hx hb hdg ht (fun h => by rwa [if_pos (by simpa [rz_cmp] using h)] at kk) (fun h => by rwa [if_neg (by simpa [rz_cmp] using h)] at kk)
    | exact lv_if_gt hx hb hdg ht (fun h => by rwa [if_pos (by simpa [rz_cmp] using h)] at kk) (fun h => by rwa [if_neg (by simpa [rz_cmp] using h)] at kk)
    | exact lv_if_le hx hb hdg ht (fun h => by rwa [if_pos (by simpa [rz_cmp] using h)] at kk) (fun h => by rwa [if_neg (by simpa [rz_cmp] using h)] at kk)
set_option maxHeartbeats 4000000 in
theorem rz_branch2 {cc : ByteArray} {pc tgt : Nat} {ls : Array Slot} {rest : List Value} {off : Int} {cd : Jvm.ClassFile.Cond} {a b : Int32} (hx : p.tables.exec = Jvm.exec) (hb : c.code = cc) (hdg : decode cc pc = .ok (.if_icmp cd off, 3)) (ht : (pc : Int) + off = (tgt : Int))
    (kk : W p l e R s m args below meth c H locs cells slots Q (F0 m (if rz_cmp cd a b = true then tgt else pc + 3) ls rest)) : W p l e R s m args below meth c H locs cells slots Q (F0 m pc ls (.int b :: .int a :: rest)) := by
  cases cd
  all_goals first
    | exact lv_icmp_eq hx hb hdg ht (fun h => by rwa [if_pos (by simpa [rz_cmp] using h)] at kk) (fun h => by rwa [if_neg (by simpa [rz_cmp] using h)] at kk)
    | exact lv_icmp_ne hx hb hdg ht (fun h => by rwa [if_pos (by simpa [rz_cmp] using h)] at kk) (fun h => by rwa [if_neg (by simpa [rz_cmp] using h)] at kk)
    | exact lv_icmp_lt hx hb hdg ht (fun h => by rwa [if_pos (by simpa [rz_cmp] using h)] at kk) (fun h => by rwa [if_neg (by simpa [rz_cmp] using h)] at kk)
    | exact lv_icmp_ge hx hb hdg ht (fun h => by rwa [if_pos (by simpa [rz_cmp] using h)] at kk) (fun h => by rwa [if_neg (by simpa [rz_cmp] using h)] at kk)
    | exact lv_icmp_gt hx hb hdg ht (fun h => by rwa [if_pos (by simpa [rz_cmp] using h)] at kk) (fun h => by rwa [if_neg (by simpa [rz_cmp] using h)] at kk)
    | exact lv_icmp_le hx hb hdg ht (fun h => by rwa [if_pos (by simpa [rz_cmp] using h)] at kk) (fun h => by rwa [if_neg (by simpa [rz_cmp] using h)] at kk)
theorem rz_nar {ty : FieldType} {v : Value} {ad : Nat → Nat} (h : rz_fit ty v = true) : narrow ty (rz_v ad v) = rz_v ad v ∧ fits ty (rz_v ad v) = true := by
  cases ty <;> cases v <;> simp [rz_fit] at h <;> first
    | exact ⟨rfl, rfl⟩
    | (rcases h with rfl | rfl
       · exact ⟨show narrow .boolean (.int 0) = .int 0 by decide +kernel, rfl⟩
       · exact ⟨show narrow .boolean (.int 1) = .int 1 by decide +kernel, rfl⟩)
theorem rz_ok0 {M pc len x y z : Nat} {ins : Instr} (h : rz_ok M pc (0, ins, len, x, y, z) = true) : decode (rz_by M) pc = .ok (ins, len) ∧ (match (generalizing := false) ins with
    | .tableswitch _ _ _ _ => true
    | .lookupswitch _ _ => true
    | _ => decide (len = rz_ln ins)) = true ∧ rz_okp (rz_y M).cls pc ins x y (rz_hint M pc) = true := by
  have h1 := Bool.and_eq_true_iff.mp h
  have h2 := Bool.and_eq_true_iff.mp h1.2
  exact ⟨of_decide_eq_true h1.1, h2.1, h2.2⟩
set_option maxHeartbeats 8000000 in
set_option maxRecDepth 100000 in
theorem rz_pure_ok {pc pc' x y z len : Nat} {ins : Instr} {L L' : rz_L} {st st' : List Value} {w w' : rz_W} {ls : Array Slot}
    (hk : rz_code M pc = some (0, ins, len, x, y, z)) (hp : rz_pure ins len x y pc L st w = some (pc', L', st', w')) (hC : rz_Cx p R s m args c M D cI cJ A)
    (hP : va_P D rz_cl (rz_ws cI cJ ad w) H) (hD : va_D A (rz_ws cI cJ ad w)) (hS : va_S A s.heap H locs) (hL : rz_Lr ad ls (rz_mL M) L)
    (kk : ∀ (ls' : Array Slot) (H' : Heap) (locs' : List Loc), rz_Lr ad ls' (rz_mL M) L' → va_P D rz_cl (rz_ws cI cJ ad w') H' → va_D A (rz_ws cI cJ ad w') → va_S A s.heap H' locs' → W p l e R s m args below meth c H' locs' cells slots Q (F0 m pc' ls' (st'.map (rz_v ad)))) :
    W p l e R s m args below meth c H locs cells slots Q (F0 m pc ls (st.map (rz_v ad))) := by
  obtain ⟨hx, hb, hml, hown, hts, hK, hA, hR⟩ := hC
  obtain ⟨hdg, hlen, ok⟩ := rz_ok0 (rz_all hk)
  unfold rz_pure at hp
  split at hp
  · -- iconst
    replace hlen : len = 1 := of_decide_eq_true hlen
    subst hlen
    cases hp
    exact lv_iconst hx hb hdg rfl (kk ls H locs hL hP hD hS)
  · replace hlen : len = 2 := of_decide_eq_true hlen
    subst hlen
    cases hp
    exact lv_bipush hx hb hdg rfl (kk ls H locs hL hP hD hS)
  · replace hlen : len = 3 := of_decide_eq_true hlen
    subst hlen
    cases hp
    exact lv_sipush hx hb hdg rfl (kk ls H locs hL hP hD hS)
  · replace hlen : len = 2 := of_decide_eq_true hlen
    subst hlen
    cases hp
    exact lv_ldc hx hb hown (hts _ (rz_use (rz_wd_in ok) rfl)) hdg (kk ls H locs hL hP hD hS)
  · replace hlen : len = 1 := of_decide_eq_true hlen
    subst hlen
    cases hp
    exact lv_lconst hx hb hdg rfl (kk ls H locs hL hP hD hS)
  · -- iload_n
    replace hlen : len = 1 := of_decide_eq_true hlen
    subst hlen
    split at hp
    · rename_i v hv
      cases hp
      exact lv_iload_n hx hb hdg rfl (hL.2.2.2 _ _ hv).2 (kk ls H locs hL hP hD hS)
    · cases hp
  · replace hlen : len = 2 := of_decide_eq_true hlen
    subst hlen
    split at hp
    · rename_i v hv
      cases hp
      exact lv_iload hx hb hdg (hL.2.2.2 _ _ hv).2 (kk ls H locs hL hP hD hS)
    · cases hp
  · replace hlen : len = 1 := of_decide_eq_true hlen
    subst hlen
    split at hp
    · rename_i v hv
      cases hp
      exact lv_aload_n hx hb hdg rfl (hL.2.2.2 _ _ hv).2 (kk ls H locs hL hP hD hS)
    · cases hp
  · replace hlen : len = 2 := of_decide_eq_true hlen
    subst hlen
    split at hp
    · rename_i v hv
      cases hp
      exact lv_aload hx hb hdg (hL.2.2.2 _ _ hv).2 (kk ls H locs hL hP hD hS)
    · cases hp
  · -- istore_n
    replace hlen : len = 1 := of_decide_eq_true hlen
    subst hlen
    split at hp
    · split at hp
      · rename_i k v r hlt
        cases hp
        exact lv_istore_n hx hb hdg rfl hL.has (by rw [← hL.2.2.1]; exact hlt) rfl (fun ls' h' => kk ls' H locs (hL.store (v := .int v) rfl h') hP hD hS)
      · cases hp
    · cases hp
  · replace hlen : len = 2 := of_decide_eq_true hlen
    subst hlen
    split at hp
    · split at hp
      · rename_i k v r hlt
        cases hp
        exact lv_istore hx hb hdg hL.has (by rw [← hL.2.2.1]; exact hlt) rfl (fun ls' h' => kk ls' H locs (hL.store (v := .int v) rfl h') hP hD hS)
      · cases hp
    · cases hp
  · -- iinc
    replace hlen : len = 3 := of_decide_eq_true hlen
    subst hlen
    split at hp
    · rename_i k n _ v hv
      cases hp
      obtain ⟨i0, hi0⟩ := List.getElem?_of_mem (rz_lp_mem (ad := ad) (L := L) (q := (k, .int v)) |>.mpr ⟨.int v, hv, rfl⟩)
      exact lv_iinc hx hb hdg hL.has hi0 rfl (by rw [← hL.2.2.1]; exact (List.getElem?_eq_some_iff.mp hv).1) rfl (fun ls' h' => kk ls' H locs (hL.store (v := .int (v + Int32.ofInt n)) rfl h') hP hD hS)
    · cases hp
  · replace hlen : len = 1 := of_decide_eq_true hlen
    subst hlen
    split at hp
    · cases hp
      exact lv_iadd hx hb hdg (kk ls H locs hL hP hD hS)
    · cases hp
  · replace hlen : len = 1 := of_decide_eq_true hlen
    subst hlen
    split at hp
    · cases hp
      exact lv_isub hx hb hdg (kk ls H locs hL hP hD hS)
    · cases hp
  · replace hlen : len = 1 := of_decide_eq_true hlen
    subst hlen
    split at hp
    · cases hp
      exact lv_imul hx hb hdg (kk ls H locs hL hP hD hS)
    · cases hp
  · replace hlen : len = 1 := of_decide_eq_true hlen
    subst hlen
    split at hp
    · split at hp
      · cases hp
      · rename_i hne
        cases hp
        exact lv_idiv hx hb hdg hne (kk ls H locs hL hP hD hS)
    · cases hp
  · replace hlen : len = 1 := of_decide_eq_true hlen
    subst hlen
    split at hp
    · split at hp
      · cases hp
      · rename_i hne
        cases hp
        exact lv_irem hx hb hdg hne (kk ls H locs hL hP hD hS)
    · cases hp
  · replace hlen : len = 1 := of_decide_eq_true hlen
    subst hlen
    split at hp
    · cases hp
      exact lv_iand hx hb hdg (kk ls H locs hL hP hD hS)
    · cases hp
  · replace hlen : len = 1 := of_decide_eq_true hlen
    subst hlen
    split at hp
    · cases hp
      exact lv_ior hx hb hdg (kk ls H locs hL hP hD hS)
    · cases hp
  · replace hlen : len = 1 := of_decide_eq_true hlen
    subst hlen
    split at hp
    · cases hp
      exact lv_ixor hx hb hdg (kk ls H locs hL hP hD hS)
    · cases hp
  · replace hlen : len = 1 := of_decide_eq_true hlen
    subst hlen
    split at hp
    · cases hp
      exact lv_ishl hx hb hdg (kk ls H locs hL hP hD hS)
    · cases hp
  · replace hlen : len = 1 := of_decide_eq_true hlen
    subst hlen
    split at hp
    · cases hp
      exact lv_ishr hx hb hdg (kk ls H locs hL hP hD hS)
    · cases hp
  · replace hlen : len = 1 := of_decide_eq_true hlen
    subst hlen
    split at hp
    · cases hp
      exact lv_i2l hx hb hdg rfl (kk ls H locs hL hP hD hS)
    · cases hp
  · replace hlen : len = 1 := of_decide_eq_true hlen
    subst hlen
    split at hp
    · cases hp
      exact lv_ladd hx hb hdg (kk ls H locs hL hP hD hS)
    · cases hp
  · replace hlen : len = 1 := of_decide_eq_true hlen
    subst hlen
    split at hp
    · cases hp
      exact W.lcmp hx hb hdg (kk ls H locs hL hP hD hS)
    · cases hp
  · -- pop
    replace hlen : len = 1 := of_decide_eq_true hlen
    subst hlen
    split at hp
    · cases hp
      exact lv_pop hx hb hdg rfl (kk ls H locs hL hP hD hS)
    · cases hp
  · -- dup
    replace hlen : len = 1 := of_decide_eq_true hlen
    subst hlen
    split at hp
    · cases hp
      exact lv_dup hx hb hdg rfl (kk ls H locs hL hP hD hS)
    · cases hp
      exact lv_dup hx hb hdg rfl (kk ls H locs hL hP hD hS)
    · cases hp
  · -- dup2
    replace hlen : len = 1 := of_decide_eq_true hlen
    subst hlen
    split at hp
    · cases hp
      exact lv_dup2_11 hx hb hdg rfl rfl (kk ls H locs hL hP hD hS)
    · cases hp
  · -- goto
    replace hlen : len = 3 := of_decide_eq_true hlen
    subst hlen
    cases hp
    exact lv_goto hx hb hdg (of_decide_eq_true ok) (kk ls H locs hL hP hD hS)
  · -- if_icmp
    replace hlen : len = 3 := of_decide_eq_true hlen
    subst hlen
    split at hp
    · cases hp
      exact rz_branch2 hx hb hdg (of_decide_eq_true ok) (kk ls H locs hL hP hD hS)
    · cases hp
  · replace hlen : len = 3 := of_decide_eq_true hlen
    subst hlen
    split at hp
    · cases hp
      exact rz_branch1 hx hb hdg (of_decide_eq_true ok) (kk ls H locs hL hP hD hS)
    · cases hp
  · -- tableswitch
    split at hp
    · rename_i d lo hi offs _ v r
      cases hp
      unfold rz_okp at ok
      simp only [Bool.and_eq_true, decide_eq_true_eq, List.all_eq_true] at ok
      obtain ⟨o1, o2⟩ := ok
      have kk := kk ls H locs hL hP hD hS
      by_cases hv : v.toInt < lo ∨ hi < v.toInt
      · rw [if_pos hv] at kk
        exact lv_tableOut hx hb hdg hv (rz_tg_eq (o2 d List.mem_cons_self)) kk
      · rw [if_neg hv] at kk
        have h1 : ¬ v.toInt < lo := fun h => hv (Or.inl h)
        have h2 : ¬ hi < v.toInt := fun h => hv (Or.inr h)
        have hsz : (v.toInt - lo).toNat < offs.size := by omega
        have ho : offs[(v.toInt - lo).toNat]? = some (offs.getD (v.toInt - lo).toNat d) := by
          simp [Array.getD, hsz]
        have hm : offs.getD (v.toInt - lo).toNat d ∈ d :: offs.toList := by
          refine List.mem_cons_of_mem _ (Array.mem_toList_iff.mpr ?_)
          exact Array.mem_of_getElem? ho
        exact lv_tableIn hx hb hdg h1 h2 ho (rz_tg_eq (o2 _ hm)) kk
    · cases hp
  · -- lookupswitch
    split at hp
    · rename_i d ps _ v r
      cases hp
      unfold rz_okp at ok
      simp only [Bool.and_eq_true, decide_eq_true_eq] at ok
      obtain ⟨⟨o1, o2⟩, o3⟩ := ok
      have key : ∀ (qs : List (Int × Int)), (∀ q ∈ qs, 0 ≤ (pc : Int) + q.2) → 0 ≤ (pc : Int) + Op.lookupswitch.offset qs d v.toInt := by
        intro qs
        induction qs with
        | nil => intro _; simpa [Op.lookupswitch.offset] using o2
        | cons a t ih =>
          intro h
          have h1 := h a List.mem_cons_self
          have h2 := ih (fun q hq => h q (List.mem_cons_of_mem _ hq))
          simp only [Op.lookupswitch.offset]
          split
          · exact h1
          · exact h2
      exact lv_lookup hx hb hdg o1 rfl (rz_tg_eq (key ps.toList (fun q hq => of_decide_eq_true (List.all_eq_true.mp o3 q hq)))) (kk ls H locs hL hP hD hS)
    · cases hp
  · -- getfield
    replace hlen : len = 3 := of_decide_eq_true hlen
    subst hlen
    unfold rz_okp at ok
    split at hp
    · split at hp
      · split at hp
        · split at hp
          · rename_i idx _ i r _ ci fs hw hci _ v hv
            cases hp
            subst hci
            dsimp only at ok
            split at ok
            · rename_i C T N hcl
              simp only [Bool.and_eq_true, decide_eq_true_eq] at ok
              obtain ⟨⟨o1, o2⟩, o3⟩ := ok
              exact va_get (D := D) (ci := ci) (v := rz_v ad v) (C := C) (T := T) (N := N) hx hb hts (rz_clw_of hcl) hown hK hP i (rz_ws_get hw) hcl y o1 (hts _ (rz_use (rz_wd_in o3) rfl)) (fun q h9 => by rw [o2] at h9; exact h9) (by simp [hv]) hdg (kk ls H locs hL hP hD hS)
            · cases ok
          · cases hp
        · cases hp
      · cases hp
    · cases hp
  · -- putfield
    replace hlen : len = 3 := of_decide_eq_true hlen
    subst hlen
    unfold rz_okp at ok
    split at hp
    · split at hp
      · split at hp
        · rename_i idx _ v i r _ ci fs hw hci
          cases hp
          obtain ⟨rfl, hy, hfit⟩ := hci
          dsimp only at ok
          split at ok
          · rename_i C T N hcl
            simp only [Bool.and_eq_true, decide_eq_true_eq] at ok
            obtain ⟨⟨⟨⟨o1, o2⟩, o3⟩, o4⟩, o5⟩ := ok
            obtain ⟨hn, hf⟩ := rz_nar (ad := ad) hfit
            exact va_put (D := D) (ci := ci) (v := rz_v ad v) (ty := rz_fty ci y) (C := C) (T := T) (N := N) hx hb hts (rz_clw_of hcl) (rz_fty ci) (rz_cty_of hcl) (rz_cnm_of hcl) hown hK hP hD hS i (rz_ws_get hw) hcl y o1 (hts _ (rz_use (rz_wd_in o3) rfl)) (fun q h9 => by rw [o2] at h9; exact h9) o4 o5 hn hf (by rw [List.length_map]; exact hy) hdg
              (fun H1 locs1 h1 h2 h3 => kk ls H1 locs1 hL (by rw [rz_ws_set]; simpa [rz_e, List.map_set] using h1) (by rw [rz_ws_set]; simpa [rz_e, List.map_set] using h2) h3)
          · cases ok
        · cases hp
      · cases hp
    · cases hp
  · -- iaload
    replace hlen : len = 1 := of_decide_eq_true hlen
    subst hlen
    split at hp
    · split at hp
      · split at hp
        · rename_i _ j i r _ k n f hw hc
          cases hp
          obtain ⟨rfl, hin⟩ := hc
          exact va_iald hx hb hK hP i 0 (cA := cI) (n := n) (f := f) (rz_ws_get hw) rfl hin hdg (kk ls H locs hL hP hD hS)
        · cases hp
      · cases hp
    · cases hp
  · -- iastore
    replace hlen : len = 1 := of_decide_eq_true hlen
    subst hlen
    split at hp
    · split at hp
      · split at hp
        · rename_i _ v j i r _ k n f hw hc
          cases hp
          obtain ⟨rfl, hin⟩ := hc
          exact va_iast hx hb hK hP hD hS i 0 (cA := cI) (n := n) (f := f) (rz_ws_get hw) rfl hin hdg
            (fun H1 locs1 h1 h2 h3 => kk ls H1 locs1 hL (by rw [rz_ws_set]; exact h1) (by rw [rz_ws_set]; exact h2) h3)
        · cases hp
      · cases hp
    · cases hp
  · -- lastore
    replace hlen : len = 1 := of_decide_eq_true hlen
    subst hlen
    split at hp
    · split at hp
      · split at hp
        · rename_i _ v j i r _ k n f hw hc
          cases hp
          obtain ⟨rfl, hin⟩ := hc
          exact va_last hx hb hK hP hD hS i 1 (cA := cJ) (n := n) (f := f) (rz_ws_get hw) rfl hin hdg
            (fun H1 locs1 h1 h2 h3 => kk ls H1 locs1 hL (by rw [rz_ws_set]; exact h1) (by rw [rz_ws_set]; exact h2) h3)
        · cases hp
      · cases hp
    · cases hp
  · -- laload
    replace hlen : len = 1 := of_decide_eq_true hlen
    subst hlen
    split at hp
    · split at hp
      · split at hp
        · rename_i _ j i r _ k n f hw hc
          cases hp
          obtain ⟨rfl, hin⟩ := hc
          exact va_lald hx hb hK hP i 1 (cA := cJ) (n := n) (f := f) (rz_ws_get hw) rfl hin hdg (kk ls H locs hL hP hD hS)
        · cases hp
      · cases hp
    · cases hp
  · -- arraylength
    replace hlen : len = 1 := of_decide_eq_true hlen
    subst hlen
    split at hp
    · split at hp
      · split at hp
        · rename_i _ i r _ k n f hw hc
          cases hp
          subst hc
          exact va_alen hx hb hK hP i 0 (cA := cI) (x := (n, .inl f)) (rz_ws_get hw) (ty := .int) rfl rfl hdg (kk ls H locs hL hP hD hS)
        · cases hp
      · cases hp
    · cases hp
  · cases hp
end RZP
/-! what a frame knows beside its world: Throwable's two statics, the words that move with the tables alone, the constants; a method's contract -/
def rz_tN : String := "java/lang/Throwable"
def rz_Zs (n d : String) (A : Nat → Prop) (U : State) (H : Heap) : Prop := ∃ (c : ClassId) (k : Class) (i : Nat) (f : Field) (a : Nat) (cell : Cell) (v : Value), U.vm.findClass rz_tN = some c ∧ U.fieldFound? rz_tN n d = some (c, k, i, f) ∧ f.isStatic = true ∧ k.statics = some a ∧ H[a]? = some cell ∧ cell.vm.isStatics = true ∧ cell.cls = c ∧ f.slot < cell.slots.size ∧ k.staticTypes[f.slot]? = some f.type ∧ cell.slots[f.slot]? = some v ∧ v.isRef = true ∧ ¬ A a
theorem rz_Zs.moved {n d : String} {A : Nat → Prop} {u U : State} {H : Heap} (hvm : u.vm.Alike U.vm) (h : rz_Zs n d A u H) : rz_Zs n d A U H := by
  obtain ⟨c, k, i, f, a, cell, v, h1, h2, h3, h4, h5, h6, h7, h8, h9, h10⟩ := h
  obtain ⟨k', hi', he⟩ := State.fieldFound?_setVm hvm h2
  exact ⟨c, k', i, f, a, cell, v, by rw [hvm.findClass]; exact h1, hi', h3, by rw [he]; exact h4, h5, h6, h7, h8, by rw [he]; exact h9, h10⟩
theorem rz_Zs.kept {n d : String} {A : Nat → Prop} {U : State} {H H1 : Heap} (h : rz_Zs n d A U H) (hq : ∀ a : Nat, a < H.size → ¬ A a → H1[a]? = H[a]?) : rz_Zs n d A U H1 := by
  obtain ⟨c, k, i, f, a, cell, v, h1, h2, h3, h4, h5, h6, h7, h8, h9, h10, h11, h12⟩ := h
  exact ⟨c, k, i, f, a, cell, v, h1, h2, h3, h4, by rw [hq a (Array.getElem?_eq_some_iff.mp h5).1 h12]; exact h5, h6, h7, h8, h9, h10, h11, h12⟩
theorem rz_Zs.narrow {n d : String} {A B : Nat → Prop} {U : State} {H : Heap} (h : rz_Zs n d A U H) (hAB : ∀ q, q < H.size → B q → A q) : rz_Zs n d B U H := by
  obtain ⟨c, k, i, f, a, cell, v, h1, h2, h3, h4, h5, h6, h7, h8, h9, h10, h11, h12⟩ := h
  exact ⟨c, k, i, f, a, cell, v, h1, h2, h3, h4, h5, h6, h7, h8, h9, h10, h11, fun z => h12 (hAB a (Array.getElem?_eq_some_iff.mp h5).1 z)⟩
theorem rz_Zs.of {args : Array Value} {s : State} {n d : String} {A : Nat → Prop} (hl : (Cond.laysStatic rz_tN n d).before args s = true) (h : (Cond.isRef (.static rz_tN n d)).before args s = true) (hA : ∀ a : Nat, a < s.heap.size → ¬ A a) : rz_Zs n d A s s.heap := by
  obtain ⟨c, k, i, f, a, cell, hc, hi, hst, ha, hcell, hs, hcls, hlt, hty⟩ := Cond.laysStatic_spec hl
  cases hv : (Term.static rz_tN n d).eval args s none [] s with
  | none => simp [Cond.before, Cond.holds, Cond.value, hv] at h
  | some v =>
    obtain ⟨hst', a', cell', ha', hcell', -, hslot⟩ := Term.static_spec hi hv
    cases ha.symm.trans ha'
    cases hcell.symm.trans hcell'
    refine ⟨c, k, i, f, a, cell, v, hc, hi, hst, ha, hcell, hs, hcls, hlt, hty, hslot, ?_, hA a (Array.getElem?_eq_some_iff.mp hcell).1⟩
    simp only [Cond.before, Cond.holds, Cond.value, hv] at h
    cases v <;> simp_all [Value.isRef]
theorem rz_Zs.lays {args : Array Value} {s : State} {n d : String} {A : Nat → Prop} (h : rz_Zs n d A s s.heap) : (Cond.laysStatic rz_tN n d).before args s = true := by
  obtain ⟨c, k, i, f, a, cell, v, h1, h2, h3, h4, h5, h6, h7, h8, h9, h10, h11, h12⟩ := h
  simp [Cond.before, Cond.holds, Cond.value, h1, h2, h3, h4, h5, h6, h7, h8, h9]
theorem rz_Zs.isRef {args : Array Value} {s : State} {n d : String} {A : Nat → Prop} (h : rz_Zs n d A s s.heap) : (Cond.isRef (.static rz_tN n d)).before args s = true := by
  obtain ⟨c, k, i, f, a, cell, v, h1, h2, h3, h4, h5, h6, h7, h8, h9, h10, h11, h12⟩ := h
  have hv : (Term.static rz_tN n d).eval args s none [] s = some v := by
    simp [Term.eval, State.fieldNamed?, h2, h3, h4, h5, h6, h10]
  simp only [Cond.before, Cond.holds, Cond.value, hv]
  cases v <;> simp_all [Value.isRef]
def rz_isX (w : Cond) : Bool := match w with
  | .declares _ => true
  | .castable _ _ => true
  | _ => false
theorem rz_X_moved {w : Cond} (hw : rz_isX w = true) {u U : State} (hvm : u.vm.Alike U.vm) (h : w.before #[] u = true) : w.before #[] U = true := by
  cases w <;> first | (simp [rz_isX] at hw; done) | skip
  · exact va_tabs rfl (rfl : (u.setVm U.vm).vm = U.vm) (by rw [Cond.declares_setVm hvm]; exact h)
  · exact va_tabs rfl (rfl : (u.setVm U.vm).vm = U.vm) (by rw [Cond.castable_setVm hvm]; exact h)
def rz_X (A : Nat → Prop) (U : State) (H : Heap) : Prop :=
  rz_Zs "UNASSIGNED_STACK" "[Ljava/lang/StackTraceElement;" A U H ∧ rz_Zs "SUPPRESSED_SENTINEL" "Ljava/util/List;" A U H ∧ (∀ w ∈ lw_tbl, rz_isX w = true → w.before #[] U = true) ∧ (∀ (own tx : String) (k : Nat), Cond.stringRef own k tx ∈ lw_tbl → ∃ a, vk_R own k tx a U) ∧ (∀ i j : Nat, i < 4 → j < 4 → i ≠ j → ∀ c c' : ClassId, U.vm.findClass (rz_xn i) = some c → U.vm.findClass (rz_xn j) = some c' → U.vm.assignable c c' = false)
theorem rz_X.go {A B : Nat → Prop} {s U : State} {H : Heap} (h : rz_X A s s.heap) (hW : s.WarmedH U.vm) (hk : ∀ a : Nat, a < s.heap.size → ¬ A a → H[a]? = s.heap[a]?) (hAB : ∀ q, q < H.size → B q → A q) : rz_X B U H := by
  obtain ⟨h1, h2, h3, h4, h5⟩ := h
  refine ⟨((h1.kept hk).narrow hAB).moved hW.alike, ((h2.kept hk).narrow hAB).moved hW.alike, fun w hw hx => rz_X_moved hx hW.alike (h3 w hw hx), fun own tx k hw => ?_, fun i j hi hj hn c c' hc hc' => ?_⟩
  · obtain ⟨a, ha⟩ := h4 own tx k hw
    exact ⟨a, ha.warm hW⟩
  · rw [hW.alike.findClass] at hc hc'
    rw [hW.alike.assignable]
    exact h5 i j hi hj hn c c' hc hc'
def rz_B (cI cJ : ClassId) (ad : Nat → Nat) (w : rz_W) : Nat → Prop := fun q => ∃ (k : Nat) (e : va_E), (rz_ws cI cJ ad w)[k]? = some (q, e)
def rz_Pc (D : va_G) (cI cJ : ClassId) (ad : Nat → Nat) (av : List Value) (w : rz_W) : Array Value → State → Prop := fun a U =>
  a = (av.map (rz_v ad)).toArray ∧ va_P D rz_cl (rz_ws cI cJ ad w) U.heap ∧ va_D (fun _ => True) (rz_ws cI cJ ad w) ∧ va_K D rz_cl [(cI, .int), (cJ, .long)] U ∧ rz_X (rz_B cI cJ ad w) U U.heap
def rz_out (ad : Nat → Nat) (r : rz_R) (st : State) (o : Outcome) (t : State) : Prop := match r with
  | .inl v => o = .returned (v.map (rz_v ad))
  | .inr k => ∃ (q : Addr) (ce : Cell), o = .threw q ∧ t.heap[q]? = some ce ∧ ce.vm.isStatics = false ∧ st.vm.findClass (rz_xn k) = some ce.cls ∧ st.vm.assignable ce.cls ce.cls = true
def rz_Qc (M : Nat) (D : va_G) (cI cJ : ClassId) (ad : Nat → Nat) (w : rz_W) (r : rz_R) (w' : rz_W) : Array Value → State → Outcome → State → Prop := fun _ st o t =>
  va_P D rz_cl (rz_ws cI cJ ad w') t.heap ∧ va_D (va_A (rz_ws cI cJ ad w) st.heap.size) (rz_ws cI cJ ad w') ∧ st.WarmedH t.vm ∧ va_F (va_A (rz_ws cI cJ ad w) st.heap.size) st t ∧
  (∃ Ls : List Loc, st.sameButNew ({ t with vm := st.vm } : State) Ls (rz_MC M) (rz_MS M) ∧ ∀ q ∈ Ls, va_A (rz_ws cI cJ ad w) st.heap.size q.base) ∧ rz_out ad r st o t
def rz_Met (l : Launch) (M : Nat) (D : va_G) (cI cJ : ClassId) (ad : Nat → Nat) (av : List Value) (w : rz_W) (r : rz_R) (w' : rz_W) : Prop :=
  MetFree l (rz_y M) (headSpec rz_tw (rz_rm M)) (rz_Pc D cI cJ ad av w) (fun _ _ _ _ _ => True) (rz_Qc M D cI cJ ad w r w')
/-- a method's code by its word -/
theorem rz_codeS {M : Nat} (hM : rz_mok M = true) {args : Array Value} {s : State} (hts : ∀ w ∈ rz_tw, w.before args s = true) :
    ∃ (mk : MethodId) (meth : Method) (c : Code), s.methodNamed? (rz_y M) = some mk ∧ s.vm.method? mk = some meth ∧ meth.code = some c ∧ c.code = rz_by M ∧ c.maxLocals = rz_mL M ∧ c.exceptionTable.toList.map (fun h => (h.startPc, h.endPc, h.handlerPc, h.catchType)) = rz_hd M ∧ meth.sig.returnType = rz_rt M ∧ meth.locks = false ∧ parseMethodDescriptor (rz_y M).desc = some meth.sig := by
  unfold rz_mok at hM
  simp only [Bool.and_eq_true] at hM
  obtain ⟨⟨⟨⟨⟨⟨⟨h1, -⟩, -⟩, -⟩, -⟩, -⟩, -⟩, -⟩ := hM
  split at h1
  · rename_i hh
    have hc := hts _ (rz_use (rz_wd_in h1) rfl)
    obtain ⟨mk, hn⟩ := Cond.code_named hc
    obtain ⟨meth, c, a1, a2, a3, a4, a5, a6, a7, a8⟩ := Cond.code_spec hn hc
    have h0 : c.exceptionTable.size = 0 := by simpa [Array.isEmpty] using a7
    have h2 : c.exceptionTable.toList = [] := List.eq_nil_of_length_eq_zero (by simpa using h0)
    exact ⟨mk, meth, c, hn, a1, a2, a3, a4, by rw [h2, hh]; rfl, a5, a6, a8⟩
  · rename_i hd tl hh
    have hc := hts _ (rz_use (rz_wd_in h1) rfl)
    obtain ⟨mk, meth, c, a0, a1, a2, a3, a4, a5, a6, a7, a8⟩ := Cond.codeWith_spec hc
    exact ⟨mk, meth, c, a0, a1, a2, a3, a4, by rw [a5, hh], a6, a7, a8⟩
/-! a call: the step into the callee, and the way back by its contract, returned or thrown -/
section RZC
variable {p : Program} {l : Launch} {e : Env} {R : Room} {s : State} {m : MethodId} {args : Array Value} {below : List Frame} {meth : Method} {c : Code} {T U : State} {locs : List Loc} {cells slots : Nat}
variable {M : Nat} {D : va_G} {cI cJ : ClassId} {ad : Nat → Nat}
theorem rz_hws (hts : ∀ w ∈ rz_tw, w.before args s = true) : ∀ w ∈ rz_tw, ∀ (a' : Array Value) (V : State), s.WarmedH V.vm → w.before a' V = true :=
  fun w hw _ _ hW => word_at hW (good_of_word (List.mem_filter.mp hw).2) (hts w hw)
theorem rz_mok_ini {x : Nat} (h : rz_mok x = true) : Cond.initialized (rz_y x).cls ∈ rz_tw ∧ ((rz_y x).cls ≠ "java/lang/invoke/MethodHandle" ∧ (rz_y x).cls ≠ "java/lang/invoke/VarHandle") ∧ Jvm.plainName (rz_y x).cls = true ∧ rz_na x ≤ rz_mL x := by
  unfold rz_mok at h
  simp only [Bool.and_eq_true, decide_eq_true_eq] at h
  obtain ⟨⟨⟨⟨⟨⟨-, h1⟩, h2⟩, h3⟩, h4⟩, h5⟩, -⟩ := h
  exact ⟨rz_use (rz_wd_in h1) rfl, ⟨h2, h3⟩, h4, h5⟩
theorem rz_mok_st {x : Nat} (h : rz_mok x = true) (hs : rz_st x = true) : Cond.static (rz_y x) ∈ rz_tw ∧ (parseMethodDescriptor (rz_y x).desc).map (fun d => d.parameters.length) = some (rz_na x) := by
  unfold rz_mok at h
  simp only [Bool.and_eq_true, decide_eq_true_eq] at h
  obtain ⟨⟨⟨⟨⟨⟨⟨-, h1⟩, -⟩, -⟩, -⟩, -⟩, -⟩, -⟩ := h
  rw [if_pos hs] at h1
  simp only [Bool.and_eq_true, decide_eq_true_eq] at h1
  exact ⟨rz_use (rz_wd_in h1.1) rfl, h1.2⟩
theorem rz_mok_vi {x : Nat} (h : rz_mok x = true) (hs : rz_st x = false) : Cond.instanceMethod (rz_y x) ∈ rz_tw ∧ Cond.selects (rz_y x).cls (rz_y x) (rz_y x) ∈ rz_tw ∧ (rz_cl[rz_rc x]?).map (fun q => q.1) = some (rz_y x).cls ∧ (parseMethodDescriptor (rz_y x).desc).map (fun d => d.parameters.length + 1) = some (rz_na x) := by
  unfold rz_mok at h
  simp only [Bool.and_eq_true, decide_eq_true_eq] at h
  obtain ⟨⟨⟨⟨⟨⟨⟨-, h1⟩, -⟩, -⟩, -⟩, -⟩, -⟩, -⟩ := h
  rw [if_neg (by rw [hs]; decide)] at h1
  simp only [Bool.and_eq_true, decide_eq_true_eq] at h1
  obtain ⟨⟨⟨a1, a2⟩, a3⟩, a4⟩ := h1
  exact ⟨rz_use (rz_wd_in a1) rfl, rz_use (rz_wd_in a2) rfl, a3, a4⟩
theorem rz_invS (X : Stand p l e R s m args below meth c T locs cells slots) (hexec : p.tables.exec = Jvm.exec) {own : String} {index x pc : Nat} (hx : rz_mok x = true) (hst : rz_st x = true) (hts : ∀ w ∈ rz_tw, w.before args s = true)
    (hown : s.vm.findClass own = some m.cls) (hlink : (Cond.methodLink own index (rz_y x)).before args s = true) {ls : Array Slot} {av rest : List Value} (hn : av.length = rz_na x)
    (hdg : decode c.code pc = .ok (.invokestatic index, 3)) :
    ∃ (mk : MethodId) (vm₁ : Vm), s.methodNamed? (rz_y x) = some mk ∧ Stand p l e R s m args below meth c (T.setVm vm₁) locs cells slots ∧
      ∀ target, Steps p.tables e below (doInvoke e ((T.setVm vm₁).setTop (F0 m pc ls rest)) [] mk av.toArray).1 target → Steps p.tables e below (T.setTop (F0 m pc ls (av.reverse ++ rest))) target := by
  obtain ⟨mk, methM, cM, hnamed, hmethM, -, -, -, -, -, -, hsigM⟩ := rz_codeS hx hts
  obtain ⟨hini, hy, -, -⟩ := rz_mok_ini hx
  obtain ⟨hstw, hlen⟩ := rz_mok_st hx hst
  have hstatic : methM.isStatic = true := Cond.static_spec hnamed hmethM (hts _ hstw)
  obtain ⟨kP, hkP, -⟩ := className_of_methodNamed hnamed
  have hinitP : kP.init = .initialized := Cond.initialized_spec (findClass_of_methodNamed hnamed) hkP (hts _ hini)
  rw [hsigM] at hlen
  obtain ⟨vm₁, X₁, hstep₁⟩ := X.invokestatic hexec hown hlink hnamed hmethM hstatic hkP hinitP hy (g := F0 m pc ls (av.reverse ++ rest)) rfl (argsL := av) (rest := rest) (hn.trans (Option.some.inj hlen).symm) rfl hdg
  exact ⟨mk, vm₁, hnamed, X₁, fun target h => hstep₁ _ fun acts => by rw [doInvoke_state] at h ⊢; exact h⟩
theorem rz_invV (X : Stand p l e R s m args below meth c T locs cells slots) (hexec : p.tables.exec = Jvm.exec) {own : String} {index x pc : Nat} (hx : rz_mok x = true) (hst : rz_st x = false) (hts : ∀ w ∈ rz_tw, w.before args s = true)
    (hown : s.vm.findClass own = some m.cls) (hlink : (Cond.methodLink own index (rz_y x)).before args s = true) {ls : Array Slot} {b : Addr} {cellB : Cell} (hcell : T.heap[b]? = some cellB) (hobj : cellB.vm.isStatics = false) (hcls : s.vm.findClass (rz_y x).cls = some cellB.cls)
    {av rest : List Value} (hn : av.length + 1 = rz_na x) (hdg : decode c.code pc = .ok (.invokevirtual index, 3)) :
    ∃ (mk : MethodId) (vm₁ : Vm), s.methodNamed? (rz_y x) = some mk ∧ Stand p l e R s m args below meth c (T.setVm vm₁) locs cells slots ∧
      ∀ target, Steps p.tables e below (doInvoke e ((T.setVm vm₁).setTop (F0 m pc ls rest)) [] mk (Value.ref b :: av).toArray).1 target → Steps p.tables e below (T.setTop (F0 m pc ls (av.reverse ++ .ref b :: rest))) target := by
  obtain ⟨mk, methM', cM, hnamed, hmethM', -, -, -, -, -, -, hsigM⟩ := rz_codeS hx hts
  obtain ⟨hini, hy, -, -⟩ := rz_mok_ini hx
  obtain ⟨hiw, hsw, -, hlen⟩ := rz_mok_vi hx hst
  obtain ⟨mk', methM, hnamed', hmethM, hstM, habM⟩ := Cond.instanceMethod_spec (hts _ hiw)
  cases hnamed.symm.trans hnamed'
  cases hmethM.symm.trans hmethM'
  obtain ⟨c2, r2, m2, q1, q2, q3, q4, kP, hkP, hkPi⟩ := Cond.selects_spec (hts _ hsw)
  cases hcls.symm.trans q1
  cases (State.methodFound?_of_named hnamed hy).symm.trans q2
  cases hnamed.symm.trans q3
  have hselP : selectMethod e.platform s.vm cellB.cls mk = .method mk := by rw [Launch.admits_selectMethod X.admits]; exact q4
  rw [hsigM] at hlen
  have hlen' : av.length = methM'.sig.parameters.length := by
    have h9 : methM'.sig.parameters.length + 1 = rz_na x := Option.some.inj hlen
    omega
  obtain ⟨vm₁, X₁, hstep₁⟩ := X.invokevirtual hexec hown hlink hnamed hmethM hstM hkP hkPi hy (a := b) (cell := cellB) hcell
    (fun z h => by rw [h] at hobj; cases hobj) hselP hmethM habM hkP hkPi (g := F0 m pc ls (av.reverse ++ .ref b :: rest)) rfl (argsL := av) (rest := rest) hlen' rfl hdg
  exact ⟨mk, vm₁, hnamed, X₁, fun target h => hstep₁ _ fun acts => by rw [doInvoke_state] at h ⊢; exact h⟩
set_option maxHeartbeats 2000000 in
/-- the way back by a contract -/
theorem rz_back (X : Stand p l e R s m args below meth c U locs cells slots) (hts : ∀ w ∈ rz_tw, w.before args s = true) {x : Nat} (hmx : rz_mok x = true) {av : List Value} {w w' : rz_W} {r : rz_R} (hM : rz_Met l x D cI cJ ad av w r w')
    {mk : MethodId} (hn : s.methodNamed? (rz_y x) = some mk) {g : JFrame} {ig : Instr} {len : Nat} (hg : g.method = m) (hsize : g.locals.size = c.maxLocals) (hdg : decode c.code g.pc = .ok (ig, len))
    (hW : 2 * g.monitorRoom + (g.stack.map fun v => v.category).sum ≤ 8) (hfr : rz_fr x + 1 ≤ R.frames) (hlo : 8 + (rz_mL x + 11) + rz_lo x ≤ R.locals) (hce : cells + rz_MC x ≤ R.cells) (hsl : slots + rz_MS x ≤ R.slots)
    (hP : rz_Pc D cI cJ ad av w (av.map (rz_v ad)).toArray (U.calling g mk (av.map (rz_v ad)).toArray)) :
    ∃ (o : Outcome) (t B : State) (Ls : List Loc), rz_Qc x D cI cJ ad w r w' (av.map (rz_v ad)).toArray (U.calling g mk (av.map (rz_v ad)).toArray) o t ∧ B.heap = t.heap ∧ B.vm = t.vm ∧ (∀ q ∈ Ls, va_A (rz_ws cI cJ ad w) U.heap.size q.base) ∧
      Stand p l e R s m args below meth c B (locs ++ Ls) (cells + rz_MC x) (slots + rz_MS x) ∧
      (∀ v, o = .returned v → Steps p.tables e below (doInvoke e (U.setTop g) [] mk (av.map (rz_v ad)).toArray).1 (B.setTop { g with pc := g.pc + len, stack := v.toList ++ g.stack })) ∧
      (∀ q, o = .threw q → Steps p.tables e below (doInvoke e (U.setTop g) [] mk (av.map (rz_v ad)).toArray).1 ((B.setTop g).pushFrame (.throwing q))) := by
  have hws := rz_hws hts
  obtain ⟨hini, -, -, -⟩ := rz_mok_ini hmx
  obtain ⟨mk', methY, cY, hn', hmY0, hcY, -, hlY, -⟩ := rz_codeS hmx hts
  cases hn.symm.trans hn'
  have hnU : U.methodNamed? (rz_y x) = some mk := X.named hn
  obtain ⟨mk2, methY2, cY2, hn2, hmY, hcY2, -, hlY2, -⟩ := rz_codeS (args := (av.map (rz_v ad)).toArray) (s := U) hmx (fun w hw => hws w hw _ _ X.warmed)
  cases hnU.symm.trans hn2
  obtain ⟨kY, hkY, -⟩ := className_of_methodNamed hnU
  have hinitY : kY.init = .initialized := Cond.initialized_spec (findClass_of_methodNamed hnU) hkY (hws _ hini (av.map (rz_v ad)).toArray U X.warmed)
  have h : At U g.method c below := by rw [hg]; exact X.here
  have happ : (headSpec rz_tw (rz_rm x)).appliesLoose (rz_y x) e.platform (U.calling g mk (av.map (rz_v ad)).toArray) = true :=
    Spec.appliesLoose_calling (g := g) h hdg hnU hkY hinitY
      (X.room_calling (g := g) (R' := rz_rm x) hsize hmY hcY2 hfr (by rw [hlY2]; show _ + rz_lo x ≤ _; omega) hce hsl) (atoms_intro fun w hw => hws w hw _ _ X.warmed)
  obtain ⟨mid, hmid⟩ := h.above
  have hfrm : (U.setTop g).frames = (.java g :: mid) ++ below := by rw [State.frames_setTop' g h.top, hmid]; rfl
  obtain ⟨o, t, hsteps, -, hend, hq⟩ := Steps.callFree hM p X.admits X.cas X.clock (acts := []) hfrm happ hP trivial
  have hq' : rz_Qc x D cI cJ ad w r w' (av.map (rz_v ad)).toArray (U.calling g mk (av.map (rz_v ad)).toArray) o t := hq
  rw [State.frames_setTop' g h.top] at hend
  obtain ⟨-, -, hW2, -, ⟨Ls, hsame, hLs⟩, -⟩ := id hq'
  have hW' : U.WarmedH t.vm := hW2
  obtain ⟨e2, q2, q3, q4, q5, q6⟩ := id hsame
  have e3 : t = ({ (U.calling g mk (av.map (rz_v ad)).toArray).setFrames t.frames with heap := t.heap, slotsUsed := t.slotsUsed } : State).setVm t.vm := by
    have : t = ({ t with vm := (U.calling g mk (av.map (rz_v ad)).toArray).vm } : State).setVm t.vm := rfl
    rw [e2] at this
    exact this
  obtain ⟨g₀, hg0⟩ := Option.isSome_iff_exists.mp h.top
  obtain ⟨fr, hfr0⟩ := State.topJava?_eq_some.mp hg0
  have hsameU : U.sameButNew ({ U with heap := t.heap, slotsUsed := t.slotsUsed } : State) Ls (rz_MC x) (rz_MS x) := by
    refine ⟨?_, q2, q3, q4, q5, q6⟩
    obtain ⟨th, hth, -⟩ := State.frames_cons hfr0
    show ({ U with heap := t.heap, slotsUsed := t.slotsUsed } : State) = { U.setFrames U.frames with heap := t.heap, slotsUsed := t.slotsUsed }
    rw [State.setFrames_self hth]
  have hrB : (({ U with heap := t.heap, slotsUsed := t.slotsUsed } : State).setVm t.vm).frames = .java g₀ :: fr := hfr0
  subst hg
  refine ⟨o, t, (({ U with heap := t.heap, slotsUsed := t.slotsUsed } : State).setVm t.vm), Ls, hq', rfl, rfl, hLs,
    ⟨X.admits, X.cas, X.clock, X.frames, X.room, X.hears, X.method, X.code, (X.here.setHeapUsed t.heap t.slotsUsed).setVm hW'.alike, X.tail, State.WarmedH.trans X.warmed hW', X.limits, X.bytes, X.same.trans (hsameU.setVm s.vm)⟩, ?_, ?_⟩
  · intro v hv
    subst hv
    obtain ⟨c₂, i₂, len₂, hc₂, hd₂, hf₂⟩ := hend
    have hcc : c₂ = c := by
      have h1 : t.code? g.method = U.code? g.method := by
        rw [State.code?_eq, State.code?_eq, hW'.alike.method?]
      exact Option.some.inj (hc₂.symm.trans (h1.trans h.code))
    subst hcc
    have hlen : len₂ = len := by rw [hdg] at hd₂; cases hd₂; rfl
    subst hlen
    have hs₂ : t = (({ U with heap := t.heap, slotsUsed := t.slotsUsed } : State).setVm t.vm).setTop { g with pc := g.pc + len₂, stack := v.toList ++ g.stack } := by
      refine e3.trans ?_
      rw [hf₂, State.calling_eq h.top, State.setFrames_setFrames, State.setTop_of_frames _ hrB, hfr0]
      rfl
    rw [← hs₂]
    exact hsteps
  · intro q hv
    subst hv
    have hend' : t.frames = .throwing q :: (.java g :: U.frames.tail) := hend
    have hs₂ : t = ((({ U with heap := t.heap, slotsUsed := t.slotsUsed } : State).setVm t.vm).setTop g).pushFrame (.throwing q) := by
      refine e3.trans ?_
      rw [hend', State.calling_eq h.top, State.setFrames_setFrames, State.setTop_of_frames _ hrB, State.pushFrame, State.setFrames_setFrames, State.frames_setFrames _ (State.cur_lt_of_frames hrB), hfr0]
      rfl
    rw [← hs₂]
    exact hsteps
end RZC
/-! a handler is found: the rows ahead of it are passed, its own row takes the exception -/
set_option maxRecDepth 100000 in
theorem rz_hoks : (List.range 112).all (fun M => ((rz_hd M).zip (rz_hk M)).all (fun q => decide (Cond.classLink (rz_y M).cls q.1.2.2.2 (rz_xn q.2) ∈ lw_tbl) && decide (q.1.2.2.2 ≠ 0) && decide (q.2 < 4))) = true := by decide +kernel
section RZH
variable {Q : Handler → Pre} {E : CtlPost} {e : Env} {d : Bool} {acts : List Action} {S : State} {f : JFrame} {a : Addr}
theorem rz_go_take {x : ExceptionTableEntry} {t : List ExceptionTableEntry} {c : ClassId} {cell : Cell} (hx : covers x f.pc = true) (h0 : x.catchType ≠ 0)
    (hl : S.vm.ClassLinks e.platform f.method.cls x.catchType c) (hcell : S.heap[a]? = some cell) (hobj : ∀ k, cell.vm ≠ .statics k)
    (hk : ∃ k, S.vm.classes[cell.cls]? = some k) (hc : ∃ k, S.vm.classes[c]? = some k) :
    wp (findHandler.go f a (x :: t)) Q E e d acts S ↔ if S.vm.assignable cell.cls c = true then Q (.found x.handlerPc) d acts (S.setVm (S.vm.noted f.method.cls x.catchType (.cls c))) else wp (findHandler.go f a t) Q E e d acts (S.setVm (S.vm.noted f.method.cls x.catchType (.cls c))) := by
  simp only [covers] at hx
  obtain ⟨ha, ht⟩ := (resolveClass_links e.toSetting hl).op (op := VmOp.resolveClass f.method.cls x.catchType) rfl
  have hal : S.vm.Alike (S.vm.noted f.method.cls x.catchType (.cls c)) := (Vm.Alike.refl S.vm).noted _ _ _
  obtain ⟨k1, hk1⟩ := hk
  obtain ⟨k2, hk2⟩ := hc
  obtain ⟨k1', hk1', -⟩ := hal.2.2 _ _ hk1
  obtain ⟨k2', hk2', -⟩ := hal.2.2 _ _ hk2
  have has : (S.vm.noted f.method.cls x.catchType (.cls c)).assignable cell.cls c = S.vm.assignable cell.cls c := by rw [hal.assignable]
  cases hfit : S.vm.assignable cell.cls c <;> rw [hfit] at has <;>
    simp [findHandler.go, hx, h0, ha, ht, hcell, hobj, hk1', hk2', has, VmOp.dirties, VmOp.acts]
end RZH
theorem rz_find {e : Env} {s : State} {args : Array Value} {f : JFrame} {a : Addr} {cell : Cell} {k hp : Nat} {own : String} (hpl : e.platform.magicAccessors = ({} : Platform).magicAccessors) (hown : s.vm.findClass own = some f.method.cls) (hk4 : k < 4)
    (hobj : ∀ k, cell.vm ≠ .statics k) (hcls : s.vm.findClass (rz_xn k) = some cell.cls) (hself : s.vm.assignable cell.cls cell.cls = true)
    (hnc : ∀ i j : Nat, i < 4 → j < 4 → i ≠ j → ∀ c c' : ClassId, s.vm.findClass (rz_xn i) = some c → s.vm.findClass (rz_xn j) = some c' → s.vm.assignable c c' = false) :
    ∀ (tbl : List ExceptionTableEntry) (ks : List Nat) (S : State), (∀ q ∈ (tbl.map (fun h => (h.startPc, h.endPc, h.handlerPc, h.catchType))).zip ks, (Cond.classLink own q.1.2.2.2 (rz_xn q.2)).before args s = true ∧ q.1.2.2.2 ≠ 0 ∧ q.2 < 4) →
      rz_go (tbl.map (fun h => (h.startPc, h.endPc, h.handlerPc, h.catchType))) ks f.pc k = some hp → s.WarmedH S.vm → S.heap[a]? = some cell →
      ∃ vm', s.WarmedH vm' ∧ ∀ (Q : Handler → Pre) (E : CtlPost) (d : Bool) (acts : List Action), wp (findHandler.go f a tbl) Q E e d acts S ↔ Q (.found hp) d acts (S.setVm vm') := by
  obtain ⟨k0, hk0⟩ := Vm.classAt_of_findClass hcls
  intro tbl
  induction tbl with
  | nil => intro ks S _ hgo; cases ks <;> cases hgo
  | cons x t ih =>
    intro ks S hall hgo hW hcell
    cases ks with
    | nil => cases hgo
    | cons q ks =>
      rw [List.map_cons] at hall hgo
      obtain ⟨k0', hk0', -⟩ := hW.alike.2.2 _ _ hk0
      obtain ⟨hlink, hne, hq4⟩ := hall ((x.startPc, x.endPc, x.handlerPc, x.catchType), q) List.mem_cons_self
      dsimp only at hlink hne hq4
      have hrest := fun z hz => hall z (List.mem_cons_of_mem _ hz)
      rw [rz_go] at hgo
      dsimp only at hgo
      by_cases hcov : covers x f.pc = true
      · have hcov' : x.startPc ≤ f.pc ∧ f.pc < x.endPc := by simpa [covers] using hcov
        obtain ⟨c', hc', hcl⟩ := Cond.classLink_spec hown hlink e.platform hpl
        obtain ⟨dk, _, _, kt, hd, _, _, _, _, hkt, _, hopen⟩ := hcl.here
        obtain ⟨kt', hkt', -⟩ := hW.alike.2.2 _ _ hkt
        have hW' := hW.noted hd hopen (State.rightAt_cls hcl)
        by_cases hqk : q = k
        · subst hqk
          rw [if_pos ⟨hcov'.1, hcov'.2, rfl⟩] at hgo
          cases hgo
          cases hcls.symm.trans hc'
          refine ⟨_, hW', fun Q E d acts => ?_⟩
          rw [rz_go_take hcov hne (hW.classLinks hcl) hcell hobj ⟨k0', hk0'⟩ ⟨kt', hkt'⟩, if_pos (by rw [hW.alike.assignable]; exact hself)]
        · rw [if_neg (fun h => hqk h.2.2)] at hgo
          obtain ⟨vm', hW2, hq⟩ := ih ks (S.setVm (S.vm.noted f.method.cls x.catchType (.cls c'))) hrest hgo hW' hcell
          refine ⟨vm', hW2, fun Q E d acts => ?_⟩
          rw [rz_go_take hcov hne (hW.classLinks hcl) hcell hobj ⟨k0', hk0'⟩ ⟨kt', hkt'⟩, if_neg (by rw [hW.alike.assignable, hnc k q hk4 hq4 (fun h => hqk h.symm) _ _ hcls hc']; decide)]
          exact hq Q E d acts
      · have hcov' : covers x f.pc = false := by simpa using hcov
        rw [if_neg (fun h => hcov (by simp [covers, h.1, h.2.1]))] at hgo
        obtain ⟨vm', hW2, hq⟩ := ih ks S hrest hgo hW hcell
        exact ⟨vm', hW2, fun Q E d acts => by rw [W.findHandler_go_skip hcov']; exact hq Q E d acts⟩
theorem rz_caught {p : Program} {l : Launch} {e : Env} {R : Room} {s : State} {m : MethodId} {args : Array Value} {below : List Frame} {meth : Method} {c : Code} {T : State} {locs : List Loc} {cells slots : Nat}
    (X : Stand p l e R s m args below meth c T locs cells slots) {g : JFrame} (hg : g.method = m) {a : Addr} {cell : Cell} {k hp : Nat} {own : String} (hown : s.vm.findClass own = some m.cls) (hk4 : k < 4) (hcell : T.heap[a]? = some cell)
    (hobj : cell.vm.isStatics = false) (hcls : s.vm.findClass (rz_xn k) = some cell.cls) (hself : s.vm.assignable cell.cls cell.cls = true)
    (hnc : ∀ i j : Nat, i < 4 → j < 4 → i ≠ j → ∀ c c' : ClassId, s.vm.findClass (rz_xn i) = some c → s.vm.findClass (rz_xn j) = some c' → s.vm.assignable c c' = false)
    (ks : List Nat) (hall : ∀ q ∈ (c.exceptionTable.toList.map (fun h => (h.startPc, h.endPc, h.handlerPc, h.catchType))).zip ks, (Cond.classLink own q.1.2.2.2 (rz_xn q.2)).before args s = true ∧ q.1.2.2.2 ≠ 0 ∧ q.2 < 4)
    (hgo : rz_go (c.exceptionTable.toList.map (fun h => (h.startPc, h.endPc, h.handlerPc, h.catchType))) ks g.pc k = some hp) :
    ∃ vm', Stand p l e R s m args below meth c (T.setVm vm') locs cells slots ∧
      ∀ target, Steps p.tables e below ((T.setVm vm').setTop { g with pc := hp, stack := [.ref a] }) target → Steps p.tables e below ((T.setTop g).pushFrame (.throwing a)) target := by
  subst hg
  have hpl : e.platform.magicAccessors = ({} : Platform).magicAccessors := by rw [X.admits.platform]
  obtain ⟨vm', hW', hq⟩ := rz_find (f := g) (a := a) hpl hown hk4 (VmData.ne_statics_of hobj) hcls hself hnc c.exceptionTable.toList ks ((T.setTop g).pushFrame (.throwing a)) hall hgo X.warmed hcell
  refine ⟨vm', X.noted hW', fun target hrest => ?_⟩
  obtain ⟨hgoes, hw⟩ := X.here.throwing a
  refine Steps.head hgoes hw ?_
  have hfind : ∀ (Q : Handler → Pre) (E : CtlPost) (d : Bool) (acts : List Action), wp (findHandler g a) Q E e d acts ((T.setTop g).pushFrame (.throwing a)) ↔ Q (.found hp) d acts (((T.setTop g).pushFrame (.throwing a)).setVm vm') := fun Q E d acts => by
    rw [W.findHandler_eq (s := (T.setTop g).pushFrame (.throwing a)) (meth := meth) (code := c) X.method' X.code]
    exact hq Q E d acts
  have hstep : ∀ r, (stepThrowing e ((T.setTop g).pushFrame (.throwing a)) a (.java g :: r)).Is ((((T.setTop g).pushFrame (.throwing a)).setVm vm').setFrames (.java { g with pc := hp, stack := [.ref a] } :: r)) [] := by
    intro r
    simp only [stepThrowing, searchFrame, vmDo]
    generalize hr : Sem.go _ e false [] ((T.setTop g).pushFrame (.throwing a)) = res
    obtain ⟨as, rfl, ha⟩ := Sem.eq_ok_of hr (a := Handler.found hp) (s' := ((T.setTop g).pushFrame (.throwing a)).setVm vm') (acts' := []) (by simp [hfind _ _ _ _])
    exact ⟨rfl, ha⟩
  rw [stepThread_throwing (frames_entered X.here.top _), (hstep _).1]
  obtain ⟨g₀, hg0⟩ := Option.isSome_iff_exists.mp X.here.top
  obtain ⟨r, hr⟩ := State.topJava?_eq_some.mp hg0
  have hr' : (T.setVm vm').frames = .java g₀ :: r := hr
  rw [State.setTop_of_frames _ hr'] at hrest
  rw [hr]
  rw [State.setTop_of_frames _ hr, State.pushFrame, State.setFrames_setFrames]
  have hcm : ∀ Z Y : List Frame, ((T.setFrames Z).setVm vm').setFrames Y = (T.setVm vm').setFrames Y := fun Z Y => by
    rw [show (T.setFrames Z).setVm vm' = (T.setVm vm').setFrames Z from rfl, State.setFrames_setFrames]
  rw [hcm]
  exact hrest
/-! a throw: the walk is told anew from the state where it stands (nothing written since), then the library's law of a constructed exception -/
theorem rz_same_nil {s s' : State} {k n : Nat} (h : s.sameButNew s' [] k n) {q : Nat} {c : Cell} (hq : s.heap[q]? = some c) : s'.heap[q]? = some c := by
  obtain ⟨-, -, -, -, -, h6⟩ := h
  obtain ⟨c', h1, h2, h3, h4⟩ := h6 q c hq
  have hs : c'.slots = c.slots := by
    apply Array.ext_getElem?
    intro i
    exact h4 i (by simp)
  rw [h1, h2, hs]
theorem rz_rebase {p : Program} {l : Launch} {e : Env} {R : Room} {s : State} {m : MethodId} {args : Array Value} {below : List Frame} {meth : Method} {c : Code} {T : State} {locs : List Loc} {cells slots : Nat}
    (X : Stand p l e R s m args below meth c T locs cells slots) (hce : cells ≤ R.cells) (hsl : slots ≤ R.slots) :
    Stand p l e { frames := R.frames, cells := R.cells - cells, slots := R.slots - slots, locals := R.locals } (T.setFrames (.invoking m args :: below)) m args below meth c T [] 0 0 := by
  obtain ⟨g₀, hg0⟩ := Option.isSome_iff_exists.mp X.here.top
  obtain ⟨r, hr⟩ := State.topJava?_eq_some.mp hg0
  obtain ⟨th, hth, -⟩ := State.frames_cons hr
  have hcur : T.cur < T.threads.size := State.cur_lt_of_frames hr
  have hf' : (T.setFrames (.invoking m args :: below)).frames = .invoking m args :: below := State.frames_setFrames _ hcur
  have hback : (T.setFrames (.invoking m args :: below)).setFrames T.frames = T := by rw [State.setFrames_setFrames, State.setFrames_self hth]
  have hal : s.vm.Alike T.vm := X.warmed.alike
  refine ⟨X.admits, X.cas, X.clock, hf', ?_, ?_, X.method', X.code, X.here, X.tail, State.WarmedH.refl (T.setFrames (.invoking m args :: below)), ?_, ?_, ?_⟩
  · have h := X.room
    have h1 : (T.setFrames (.invoking m args :: below)).localsInUse = s.localsInUse := by
      rw [State.localsInUse_invoking hf' (meth := meth) (c := c) X.method' X.code, State.localsInUse_invoking X.frames X.method X.code]
    have h2 : (T.setFrames (.invoking m args :: below)).frames.length = s.frames.length := by rw [hf', X.frames]
    have h3 : e.platform.stackLimits (T.setFrames (.invoking m args :: below)).me = e.platform.stackLimits s.me := by rw [State.stackLimits_setFrames, X.limits]
    have h4 : (T.setFrames (.invoking m args :: below)).me.stackBytes = s.me.stackBytes := by rw [State.stackBytes_setFrames, X.bytes]
    have h5 : T.heap.size ≤ s.heap.size + cells := X.heapSize
    have h6 : T.slotsUsed ≤ s.slotsUsed + slots := X.used
    have h7 : (T.setFrames (.invoking m args :: below)).slotsTrue = true := X.book
    have h8 : (T.setFrames (.invoking m args :: below)).heap.size = T.heap.size := rfl
    have h9 : (T.setFrames (.invoking m args :: below)).slotsUsed = T.slotsUsed := rfl
    simp only [State.hasRoom, Bool.and_eq_true, decide_eq_true_eq] at h ⊢
    rw [h1, h2, h3, h4, h8, h9]
    refine ⟨⟨⟨h.1.1.1, ?_⟩, ?_⟩, h7⟩
    · have := h.1.1.2
      omega
    · have := h.1.2
      omega
  · have h := X.hears
    cases below with
    | nil =>
      simp only [State.hears] at h ⊢
      rw [show (T.setFrames (.invoking m args :: [])).vm.method? m = s.vm.method? m from by show T.vm.method? m = _; rw [hal.method?]]
      exact h
    | cons f fs =>
      cases f with
      | java g =>
        simp only [State.hears] at h ⊢
        rw [show (T.setFrames (.invoking m args :: .java g :: fs)).code? g.method = s.code? g.method from by rw [State.code?_eq, State.code?_eq]; show (T.vm.method? _).bind _ = _; rw [hal.method?]]
        exact h
      | _ =>
        first
          | rfl
          | (simp only [State.hears] at h ⊢
             first
               | exact h
               | (rw [show ∀ Z : List Frame, (T.setFrames Z).vm.method? m = s.vm.method? m from fun Z => by show T.vm.method? m = _; rw [hal.method?]]
                  exact h))
  · rw [State.stackLimits_setFrames]
  · rw [State.stackBytes_setFrames]
  · have ht' : ∃ t, (T.setFrames (.invoking m args :: below)).threads[(T.setFrames (.invoking m args :: below)).cur]? = some t := by
      obtain ⟨t, ht, -⟩ := State.frames_cons hf'
      exact ⟨t, ht⟩
    obtain ⟨t, ht⟩ := ht'
    have h := (State.sameButNew.refl (T.setFrames (.invoking m args :: below)) ht).setFrames T.frames (State.cur_lt_of_frames hf')
    rw [hback] at h
    exact h
def rz_oaw (x ic : Nat) : Bool := (Bundle.ownAtoms "RowImprover" ic (rz_xn x) rz_names).all (fun a => (decide (a ∈ lw_tbl) && (goodWord a || rz_isX a)) || decide (a = .laysStatic rz_tN "UNASSIGNED_STACK" "[Ljava/lang/StackTraceElement;") || decide (a = .laysStatic rz_tN "SUPPRESSED_SENTINEL" "Ljava/util/List;") || decide (a = .isRef (.static rz_tN "UNASSIGNED_STACK" "[Ljava/lang/StackTraceElement;")) || decide (a = .isRef (.static rz_tN "SUPPRESSED_SENTINEL" "Ljava/util/List;")))
set_option maxRecDepth 100000 in
theorem rz_oa0 : rz_oaw 0 54 = true := by decide +kernel
set_option maxRecDepth 100000 in
theorem rz_oa1 : rz_oaw 1 65 = true := by decide +kernel
set_option maxRecDepth 100000 in
theorem rz_oa2 : rz_oaw 2 82 = true := by decide +kernel
set_option maxRecDepth 100000 in
theorem rz_oa3 : rz_oaw 3 146 = true := by decide +kernel
def rz_icx (x : Nat) : Nat := match x with
  | 0 => 54
  | 1 => 65
  | 2 => 82
  | _ => 146
theorem rz_oa {x ic : Nat} (h : x < 4) (hi : ic = rz_icx x) : rz_oaw x ic = true := by
  subst hi
  match x, h with
  | 0, _ => exact rz_oa0
  | 1, _ => exact rz_oa1
  | 2, _ => exact rz_oa2
  | 3, _ => exact rz_oa3
theorem rz_xw0 : ∀ x, x < 4 → (Cond.instantiable (rz_xn x) 6 ∈ lw_tbl ∧ Cond.initialized (rz_xn x) ∈ lw_tbl ∧ Bundle.fit (rz_xn x) = true) := by decide +kernel
set_option maxRecDepth 100000 in
theorem rz_len3s : (List.range 112).all (fun M => (rz_T M).all (fun e => match e.2 with
  | (3, _, len, _) => decide (len = 3)
  | _ => true)) = true := by decide +kernel
theorem rz_all3 {M pc len x y z : Nat} {ins : Instr} (h : rz_code M pc = some (3, ins, len, x, y, z)) : len = 3 :=
  of_decide_eq_true (List.all_eq_true.mp (List.all_eq_true.mp rz_len3s M (List.mem_range.mpr (rz_lt h))) (pc, (3, ins, len, x, y, z)) (rz_lookup h))
theorem rz_ok3 {M pc len x y z : Nat} {ins : Instr} (h : rz_ok M pc (3, ins, len, x, y, z) = true) : ∃ idx : Nat, decode (rz_by M) pc = .ok (.new idx, len) ∧ ins = .new idx ∧ x < 4 ∧ Cond.classLink (rz_y M).cls idx (rz_xn x) ∈ rz_tw ∧ (rz_y M).cls = "RowImprover" ∧ y = rz_icx x ∧ decode (rz_by M) (pc + 3) = .ok (.dup, 1) ∧ decode (rz_by M) (pc + 4) = .ok (.ldc z, 2) ∧ decode (rz_by M) (pc + 6) = .ok (.invokespecial y, 3) ∧ decode (rz_by M) (pc + 9) = .ok (.athrow, 1) ∧ (∃ tx, Cond.stringRef "RowImprover" z tx ∈ lw_tbl) ∧ rz_hd M = [] ∧ 6 ≤ rz_fr M ∧ 90 ≤ rz_lo M := by
  obtain ⟨h1, h2⟩ := Bool.and_eq_true_iff.mp h
  have h1 : decode (rz_by M) pc = .ok (ins, len) := of_decide_eq_true h1
  cases ins <;> first | exact absurd (show false = true from h2) (by decide) | skip
  obtain ⟨h2, a12⟩ := Bool.and_eq_true_iff.mp h2
  obtain ⟨h2, a11⟩ := Bool.and_eq_true_iff.mp h2
  obtain ⟨h2, a10⟩ := Bool.and_eq_true_iff.mp h2
  obtain ⟨h2, a9⟩ := Bool.and_eq_true_iff.mp h2
  obtain ⟨h2, a8⟩ := Bool.and_eq_true_iff.mp h2
  obtain ⟨h2, a7⟩ := Bool.and_eq_true_iff.mp h2
  obtain ⟨h2, a6⟩ := Bool.and_eq_true_iff.mp h2
  obtain ⟨h2, a5⟩ := Bool.and_eq_true_iff.mp h2
  obtain ⟨h2, a4⟩ := Bool.and_eq_true_iff.mp h2
  obtain ⟨h2, a3⟩ := Bool.and_eq_true_iff.mp h2
  obtain ⟨a1, a2⟩ := Bool.and_eq_true_iff.mp h2
  refine ⟨_, h1, rfl, of_decide_eq_true a1, rz_use (rz_wd_in a2) rfl, of_decide_eq_true a3, of_decide_eq_true a4, of_decide_eq_true a5, of_decide_eq_true a6, of_decide_eq_true a7, of_decide_eq_true a8, ?_, of_decide_eq_true a10, of_decide_eq_true a11, of_decide_eq_true a12⟩
  obtain ⟨w, hw, hs⟩ := List.any_eq_true.mp a9
  split at hs
  · rename_i o k tx
    simp only [Bool.and_eq_true, beq_iff_eq] at hs
    obtain ⟨rfl, rfl⟩ := hs
    exact ⟨tx, hw⟩
  · cases hs
set_option maxHeartbeats 4000000 in
set_option maxRecDepth 100000 in
theorem rz_throwW {p : Program} {l : Launch} {e : Env} {R : Room} {s : State} {m : MethodId} {args : Array Value} {below : List Frame} {meth : Method} {c : Code} {H : Heap} {locs : List Loc} {cells slots : Nat} {M : Nat} {A : Nat → Prop}
    (hl : l.stackTraces = false) (hx : p.tables.exec = Jvm.exec) (hb : c.code = rz_by M) (hml : c.maxLocals = rz_mL M) (hown : s.vm.findClass (rz_y M).cls = some m.cls) (hts : ∀ w ∈ rz_tw, w.before args s = true) (hX : rz_X A s s.heap) (hR : R = rz_rm M) (hlocks : meth.locks = false)
    (hh : c.exceptionTable.toList.map (fun h => (h.startPc, h.endPc, h.handlerPc, h.catchType)) = rz_hd M) (hk0 : ∀ a : Nat, a < s.heap.size → ¬ A a → H[a]? = s.heap[a]?) {pc len x y z : Nat} {ins : Instr} {ls : Array Slot} (hls : ls.size = rz_mL M)
    (hcd : rz_code M pc = some (3, ins, len, x, y, z)) (hce : cells + 1 ≤ R.cells) (hsl : slots + 6 ≤ R.slots) :
    W p l e R s m args below meth c H locs cells slots (fun t => ∃ (q : Addr) (ce : Cell), t.status = .running ∧ Ended t below (.threw q) ∧ s.WarmedH t.vm ∧ s.sameButNew ({ t with vm := s.vm } : State) locs (cells + 1) (slots + 6) ∧ t.heap[q]? = some ce ∧ ce.vm.isStatics = false ∧ s.vm.findClass (rz_xn x) = some ce.cls ∧ s.vm.assignable ce.cls ce.cls = true ∧ H.size ≤ t.heap.size ∧ ∀ a : Nat, a < H.size → t.heap[a]? = H[a]?) (F0 m pc ls []) := by
  obtain ⟨idx, d0, rfl, hx4, hcl, hcls, hyy, d3, d4, d6, d9, ⟨tx, htx⟩, hnil, hfr, hlo⟩ := rz_ok3 (rz_all hcd)
  have hlen : len = 3 := rz_all3 hcd
  subst hlen
  intro T hT X
  subst hT
  have Y := rz_rebase X (by omega) (by omega)
  have hws := rz_hws hts
  have htr : e.platform.stackTraces = false := by rw [Example.NoTraceControls.admits_follows X.admits]; exact hl
  generalize hs' : T.setFrames (.invoking m args :: below) = s' at Y
  have hvm : s'.vm = T.vm := by rw [← hs']; rfl
  have hheap : s'.heap = T.heap := by rw [← hs']; rfl
  have hW' : s.WarmedH s'.vm := by rw [hvm]; exact X.warmed
  have hX' : rz_X (fun _ => False) s' s'.heap := by
    rw [hheap]
    exact hX.go hW' hk0 (fun _ _ h => h.elim)
  have hown' : s'.vm.findClass "RowImprover" = some m.cls := by rw [← hcls, hW'.alike.findClass]; exact hown
  have hatoms : ∀ a ∈ Bundle.ownAtoms "RowImprover" y (rz_xn x) rz_names, a.before args s' = true := by
    intro a ha
    have h1 := List.all_eq_true.mp (rz_oa hx4 hyy) a ha
    simp only [Bool.or_eq_true, Bool.and_eq_true, decide_eq_true_eq] at h1
    rcases h1 with (((⟨h1, h2⟩ | rfl) | rfl) | rfl) | rfl
    · rcases h2 with h2 | h2
      · exact hws a (rz_use h1 h2) args s' hW'
      · have h3 := hX'.2.2.1 a h1 h2
        cases a <;> first | (simp [rz_isX] at h2; done) | exact va_tabs rfl rfl h3
    · exact hX'.1.lays
    · exact hX'.2.1.lays
    · exact hX'.1.isRef
    · exact hX'.2.1.isRef
  obtain ⟨hw1, hw2, hfit⟩ := rz_xw0 x hx4
  obtain ⟨vm₁, cX, kX, hfX, hkX, -, -, X₁, st1⟩ := Y.newCold hx (own := "RowImprover") (C := rz_xn x) (index := idx) (n := 6) hown' (by rw [← hcls]; exact hws _ hcl args s' hW') (hws _ (rz_use hw1 rfl) args s' hW') (hws _ (rz_use hw2 rfl) args s' hW')
    (g := F0 m pc ls []) rfl (by rw [hb]; exact d0) (by show 0 + 1 ≤ R.cells - cells; omega) (by show 0 + 6 ≤ R.slots - slots; omega)
  generalize hT1 : (T.setVm vm₁).pushCell { cls := cX, slots := kX.instanceTypes.map defaultValue, vm := .none } = T1 at X₁ st1
  have hcellA : T1.heap[T.heap.size]? = some (freshCell cX kX) := by rw [← hT1]; exact State.heap_pushCell_size _ _
  obtain ⟨sa0, hsa⟩ := hX'.2.2.2.1 _ _ _ htx
  have hconst : (Cond.stringRef "RowImprover" z tx).before args s' = true := hsa.1
  obtain ⟨-, -, -, sa, -, -, -, -, -, hev⟩ := Cond.stringRef_spec hown' hconst
  have hempty : c.exceptionTable.isEmpty = true := by
    rw [hnil] at hh
    have h1 : c.exceptionTable.toList = [] := List.map_eq_nil_iff.mp hh
    have h2 : c.exceptionTable = #[] := by
      apply Array.toList_inj.mp
      simpa using h1
    rw [h2]; rfl
  obtain ⟨U, hsteps, hrun, hend, hWU, hsame, ce, hce1, K⟩ := X₁.ctorThrowS hx htr (own := "RowImprover") (cls := rz_xn x) (names := rz_names) (ic := y) hown' hfit (by decide +kernel)
    hatoms (fun y9 hy9 => by cases hy9) hfX hkX hcellA (by rw [hheap]; exact Nat.le_refl _) (msg := .ref sa) rfl
    (g := F0 m (pc + 6) ls [.ref sa, .ref T.heap.size, .ref T.heap.size]) rfl (by rw [hml]; exact hls) rfl rfl (rest := []) rfl
    (by rw [hb]; exact d6) (by rw [hb]; exact d9) (covers_of_empty hempty _) (by show 2 + 3 < R.frames; rw [hR]; show 5 < rz_fr M; omega) (by rw [hR]; show 2 * 0 + 1 + 81 ≤ rz_lo M; omega) hlocks
  have hkeep : ∀ a : Nat, a < T.heap.size → U.heap[a]? = T.heap[a]? := fun a ha => by
    have h1 : s'.heap[a]? = some T.heap[a] := by rw [hheap]; exact Array.getElem?_eq_getElem ha
    have h2 := rz_same_nil hsame h1
    rw [show U.heap[a]? = ({ U with vm := s'.vm } : State).heap[a]? from rfl, h2, Array.getElem?_eq_getElem ha]
  have hTU : T.sameButNew (U.setVm T.vm) [] 1 6 := by
    obtain ⟨q1, q2, q3, q4, q5, q6⟩ := hsame
    rw [hvm] at q1
    rw [hheap] at q2 q3 q4 q5 q6
    refine ⟨?_, q2, q3, ?_, q5, q6⟩
    · refine (show U.setVm T.vm = ({ U with vm := T.vm } : State) from rfl).trans (q1.trans ?_)
      rw [← hs']
      show ({ (T.setFrames (.invoking m args :: below)).setFrames _ with heap := _, slotsUsed := _ } : State) = _
      rw [State.setFrames_setFrames]
      rfl
    · rw [← hs'] at q4
      exact q4
  refine ⟨U, ?_, T.heap.size, ce, hrun, hend, State.WarmedH.trans X.warmed ?_, ?_, hce1, by rw [K.vm]; rfl, ?_, ?_, ?_, hkeep⟩
  · refine st1 _ ?_
    show Steps p.tables e below (T1.setTop (F0 m (pc + 3) ls [.ref T.heap.size])) _
    have d3' : decode c.code (pc + 3) = .ok (.dup, 1) := by rw [hb]; exact d3
    jvm_step X₁.here [X₁.here.top, hx, d3', Value.category]
    exact X₁.ldcString hx (own := "RowImprover") (text := tx) (index := z) (a := sa) hown' hconst hev (g := F0 m (pc + 4) ls [.ref T.heap.size, .ref T.heap.size]) rfl (by rw [hb]; exact d4) _ hsteps
  · rw [← hs'] at hWU
    exact hWU
  · have h := X.same.trans (hTU.setVm s.vm)
    rw [List.append_nil] at h
    exact h
  · rw [← hW'.alike.findClass]; exact K.cls
  · rw [← hW'.alike.assignable]; exact K.self
  · have := hTU.2.1
    exact this
/-! a call of the abstract machine, in the walk -/
theorem rz_ok1 {M pc len x y z : Nat} {ins : Instr} (h : rz_ok M pc (1, ins, len, x, y, z) = true) : decode (rz_by M) pc = .ok (ins, 3) ∧ len = 3 ∧ y = rz_na x ∧ 0 < x ∧ rz_fr x + 1 ≤ rz_fr M ∧ 8 + (rz_mL x + 11) + rz_lo x ≤ rz_lo M ∧ ((∃ idx, ins = .invokestatic idx ∧ rz_st x = true ∧ Cond.methodLink (rz_y M).cls idx (rz_y x) ∈ rz_tw) ∨ (∃ idx, ins = .invokevirtual idx ∧ rz_st x = false ∧ Cond.methodLink (rz_y M).cls idx (rz_y x) ∈ rz_tw)) := by
  obtain ⟨h1, h2⟩ := Bool.and_eq_true_iff.mp h
  have h1 : decode (rz_by M) pc = .ok (ins, len) := of_decide_eq_true h1
  obtain ⟨h2, a6⟩ := Bool.and_eq_true_iff.mp h2
  obtain ⟨h2, a5⟩ := Bool.and_eq_true_iff.mp h2
  obtain ⟨h2, a4⟩ := Bool.and_eq_true_iff.mp h2
  obtain ⟨h2, a3⟩ := Bool.and_eq_true_iff.mp h2
  obtain ⟨a1, a2⟩ := Bool.and_eq_true_iff.mp h2
  have a1 : len = 3 := of_decide_eq_true a1
  subst a1
  refine ⟨h1, rfl, of_decide_eq_true a2, of_decide_eq_true a3, of_decide_eq_true a4, of_decide_eq_true a5, ?_⟩
  cases ins <;> first | exact absurd (show false = true from a6) (by decide) | skip
  · obtain ⟨b1, b2⟩ := Bool.and_eq_true_iff.mp a6
    exact Or.inl ⟨_, rfl, b1, rz_use (rz_wd_in b2) rfl⟩
  · obtain ⟨b1, b2⟩ := Bool.and_eq_true_iff.mp a6
    exact Or.inr ⟨_, rfl, by simpa using b1, rz_use (rz_wd_in b2) rfl⟩
theorem rz_go_lt {pc k hp : Nat} : ∀ (hs : List (Nat × Nat × Nat × Nat)) (ks : List Nat), (∀ q ∈ hs.zip ks, q.2 < 4) → rz_go hs ks pc k = some hp → k < 4 := by
  intro hs
  induction hs with
  | nil => intro ks _ h; cases ks <;> cases h
  | cons a t ih =>
    intro ks hq h
    cases ks with
    | nil => cases h
    | cons b ks =>
      rw [rz_go] at h
      by_cases hb : a.1 ≤ pc ∧ pc < a.2.1 ∧ b = k
      · have := hq (a, b) List.mem_cons_self
        rw [← hb.2.2]
        exact this
      · rw [if_neg hb] at h
        exact ih ks (fun q hq' => hq q (List.mem_cons_of_mem _ hq')) h
set_option maxHeartbeats 4000000 in
theorem rz_callW {p : Program} {l : Launch} {e : Env} {R : Room} {s : State} {m : MethodId} {args : Array Value} {below : List Frame} {meth : Method} {c : Code} {H : Heap} {locs : List Loc} {cells slots : Nat} {Q : State → Prop} {M : Nat} {D : va_G} {cI cJ : ClassId} {ad : Nat → Nat} {A : Nat → Prop}
    (hC : rz_Cx p R s m args c M D cI cJ A) (hX : rz_X A s s.heap) (hh : c.exceptionTable.toList.map (fun h => (h.startPc, h.endPc, h.handlerPc, h.catchType)) = rz_hd M)
    {pc len x y z : Nat} {ins : Instr} {L : rz_L} {st : List Value} {w w1 : rz_W} {r : rz_R} {ls : Array Slot} (hcd : rz_code M pc = some (1, ins, len, x, y, z)) (hx112 : x < 112)
    (hy : y ≤ st.length) (hmc : cells + rz_MC x ≤ rz_MC M) (hms : slots + rz_MS x ≤ rz_MS M) (hrecv : rz_recv w x ins (st.take y).reverse = true) (hcat : ((st.drop y).map fun v => v.category).sum ≤ 8)
    (hM : rz_Met l x D cI cJ ad (st.take y).reverse w r w1) (hP : va_P D rz_cl (rz_ws cI cJ ad w) H) (hD : va_D A (rz_ws cI cJ ad w)) (hS : va_S A s.heap H locs) (hL : rz_Lr ad ls (rz_mL M) L)
    (kret : ∀ v, r = .inl v → ∀ (H1 : Heap) (locs1 : List Loc), va_P D rz_cl (rz_ws cI cJ ad w1) H1 → va_D A (rz_ws cI cJ ad w1) → va_S A s.heap H1 locs1 → W p l e R s m args below meth c H1 locs1 (cells + rz_MC x) (slots + rz_MS x) Q (F0 m (pc + 3) ls ((v.toList ++ st.drop y).map (rz_v ad))))
    (kthr : ∀ k, r = .inr k → ∃ hp, rz_go (rz_hd M) (rz_hk M) pc k = some hp ∧ ∀ (H1 : Heap) (locs1 : List Loc) (q : Nat), va_P D rz_cl (rz_ws cI cJ ad w1) H1 → va_D A (rz_ws cI cJ ad w1) → va_S A s.heap H1 locs1 → W p l e R s m args below meth c H1 locs1 (cells + rz_MC x) (slots + rz_MS x) Q (F0 m hp ls [.ref q])) :
    W p l e R s m args below meth c H locs cells slots Q (F0 m pc ls (st.map (rz_v ad))) := by
  obtain ⟨hx, hb, hml, hown, hts, hK, hA, hR⟩ := hC
  obtain ⟨hdg, rfl, hna, hx0, hfr, hlo, hins⟩ := rz_ok1 (rz_all hcd)
  have hmx : rz_mok x = true := rz_mok_of hx0 hx112
  intro T hT X
  subst hT
  have hdg' : decode c.code pc = .ok (ins, 3) := by rw [hb]; exact hdg
  have hlen : ((st.take y).reverse.map (rz_v ad)).length = rz_na x := by simp [← hna, hy]
  have hstk : st.map (rz_v ad) = ((st.take y).reverse.map (rz_v ad)).reverse ++ (st.drop y).map (rz_v ad) := by
    rw [List.map_reverse, List.reverse_reverse, ← List.map_append, List.take_append_drop]
  have hinv : ∃ (mk : MethodId) (vm₁ : Vm), s.methodNamed? (rz_y x) = some mk ∧ Stand p l e R s m args below meth c (T.setVm vm₁) locs cells slots ∧
      ∀ target, Steps p.tables e below (doInvoke e ((T.setVm vm₁).setTop (F0 m pc ls ((st.drop y).map (rz_v ad)))) [] mk ((st.take y).reverse.map (rz_v ad)).toArray).1 target → Steps p.tables e below (T.setTop (F0 m pc ls (st.map (rz_v ad)))) target := by
    rcases hins with ⟨idx, rfl, hst, hlk⟩ | ⟨idx, rfl, hst, hlk⟩
    · rw [hstk]
      exact rz_invS X hx hmx hst hts hown (hts _ hlk) hlen hdg'
    · unfold rz_recv at hrecv
      dsimp only at hrecv
      split at hrecv
      · rename_i i tl hav
        split at hrecv
        · rename_i ci fs hw
          have hci : ci = rz_rc x := of_decide_eq_true hrecv
          obtain ⟨-, -, hcl, -⟩ := rz_mok_vi hmx hst
          cases hq : rz_cl[rz_rc x]? with
          | none => rw [hq] at hcl; cases hcl
          | some q =>
            rw [hq] at hcl
            have hq1 : q.1 = (rz_y x).cls := Option.some.inj hcl
            obtain ⟨cellB, b1, b2, b3⟩ := va_recv hK hP (by rw [hci]; exact hq) (rz_ws_get (cI := cI) (cJ := cJ) (ad := ad) hw)
            rw [hq1] at b3
            rw [hstk, hav]
            rw [hav] at hlen
            have h1 : (tl.map (rz_v ad)).length + 1 = rz_na x := by simpa using hlen
            have h2 := rz_invV X hx hmx hst hts hown (hts _ hlk) (ls := ls) b1 b2 b3 (av := tl.map (rz_v ad)) (rest := (st.drop y).map (rz_v ad)) h1 hdg'
            simpa [rz_v, List.map_cons, List.reverse_cons, List.append_assoc] using h2
        · cases hrecv
      · cases hrecv
  obtain ⟨mk, vm₁, hnamed, X₁, hstep⟩ := hinv
  have hsub : ∀ q, va_A (rz_ws cI cJ ad w) T.heap.size q → A q := fun q h => by
    rcases h with ⟨k, e9, h⟩ | h
    · exact hD.2 k _ h
    · exact hA q (Nat.le_trans hS.1 h)
  have hPc : rz_Pc D cI cJ ad (st.take y).reverse w ((st.take y).reverse.map (rz_v ad)).toArray ((T.setVm vm₁).calling (F0 m pc ls ((st.drop y).map (rz_v ad))) mk ((st.take y).reverse.map (rz_v ad)).toArray) := by
    have hal : s.vm.Alike ((T.setVm vm₁).calling (F0 m pc ls ((st.drop y).map (rz_v ad))) mk ((st.take y).reverse.map (rz_v ad)).toArray).vm := X₁.warmed.alike
    exact ⟨rfl, hP, hD.weaken (fun _ _ _ _ => trivial), va_K.moved hal hK, hX.go (U := (T.setVm vm₁).calling (F0 m pc ls ((st.drop y).map (rz_v ad))) mk ((st.take y).reverse.map (rz_v ad)).toArray) X₁.warmed hS.2.1 (fun q _ hq => by
      obtain ⟨k, e9, h9⟩ := hq
      exact hD.2 k _ h9)⟩
  obtain ⟨o, t, B, Ls, hq, hBh, hBv, hLs, XB, hret, hthr⟩ := rz_back X₁ hts hmx hM hnamed (g := F0 m pc ls ((st.drop y).map (rz_v ad))) (ig := ins) (len := 3) rfl (by rw [hml]; exact hL.1) hdg'
    (by show 2 * 0 + _ ≤ 8; rw [List.map_map, show ((fun v : Value => v.category) ∘ rz_v ad) = (fun v : Value => v.category) from funext fun v => rz_v_cat ad v]; omega)
    (by rw [hR]; exact hfr) (by rw [hR]; exact hlo) (by rw [hR]; exact hmc) (by rw [hR]; exact hms) hPc
  obtain ⟨hP1, hD1, hW1, hF, -, hout⟩ := hq
  have hP1 : va_P D rz_cl (rz_ws cI cJ ad w1) B.heap := by rw [hBh]; exact hP1
  have hD1 : va_D A (rz_ws cI cJ ad w1) := hD1.weaken (fun k q _ h => hsub q.1 h)
  have hS1 : va_S A s.heap B.heap (locs ++ Ls) := by
    rw [hBh]
    refine ⟨Nat.le_trans hS.1 hF.1, fun q h1 h2 => ?_, fun q hq => ?_⟩
    · rw [hF.2 q (Nat.lt_of_lt_of_le h1 hS.1) (fun h => h2 (hsub q h))]
      exact hS.2.1 q h1 h2
    · rcases List.mem_append.mp hq with h | h
      · exact hS.2.2 q h
      · exact hsub _ (hLs q h)
  cases r with
  | inl v =>
    obtain ⟨t', st', q'⟩ := kret v rfl B.heap (locs ++ Ls) hP1 hD1 hS1 B rfl XB
    refine ⟨t', hstep _ ((hret _ hout).trans ?_), q'⟩
    have heq : (v.map (rz_v ad)).toList ++ (st.drop y).map (rz_v ad) = (v.toList ++ st.drop y).map (rz_v ad) := by cases v <;> simp
    show Steps p.tables e below (B.setTop (F0 m (pc + 3) ls ((v.map (rz_v ad)).toList ++ (st.drop y).map (rz_v ad)))) t'
    rw [heq]
    exact st'
  | inr k =>
    obtain ⟨q, ce, ho, hce, hobj, hcls, hself⟩ := hout
    obtain ⟨hp, hgo, kk⟩ := kthr k rfl
    have hM112 : M < 112 := rz_lt hcd
    have hoks := List.all_eq_true.mp rz_hoks M (List.mem_range.mpr hM112)
    have hall : ∀ q ∈ (rz_hd M).zip (rz_hk M), (Cond.classLink (rz_y M).cls q.1.2.2.2 (rz_xn q.2)).before args s = true ∧ q.1.2.2.2 ≠ 0 ∧ q.2 < 4 := fun q hq => by
      have h1 := List.all_eq_true.mp hoks q hq
      simp only [Bool.and_eq_true, decide_eq_true_eq] at h1
      exact ⟨hts _ (rz_use h1.1.1 rfl), h1.1.2, h1.2⟩
    have hal : s.vm.Alike ((T.setVm vm₁).calling (F0 m pc ls ((st.drop y).map (rz_v ad))) mk ((st.take y).reverse.map (rz_v ad)).toArray).vm := X₁.warmed.alike
    rw [hal.findClass] at hcls
    rw [hal.assignable] at hself
    obtain ⟨vm', XC, hst2⟩ := rz_caught XB (g := F0 m pc ls ((st.drop y).map (rz_v ad))) rfl hown (rz_go_lt _ _ (fun q hq => (hall q hq).2.2) hgo) (a := q) (by rw [hBh]; exact hce) hobj hcls hself hX.2.2.2.2 (rz_hk M) (by rw [hh]; exact hall) (by rw [hh]; exact hgo)
    obtain ⟨t', st', q'⟩ := kk B.heap (locs ++ Ls) q hP1 hD1 hS1 (B.setVm vm') rfl XC
    exact ⟨t', hstep _ ((hthr _ ho).trans (hst2 _ st')), q'⟩
/-! the whole run of a frame of the abstract machine is the machine's walk; a method's run is its contract -/
def rz_Hend (p : Program) (l : Launch) (e : Env) (R : Room) (s : State) (m : MethodId) (args : Array Value) (below : List Frame) (meth : Method) (c : Code) (M : Nat) (D : va_G) (cI cJ : ClassId) (ad : Nat → Nat) (A : Nat → Prop) (Q : State → Prop) (r : rz_R) (w' : rz_W) : Prop :=
  ∀ (pc : Nat) (ins : Instr) (len x y z kd : Nat) (st : List Value) (ls : Array Slot) (H : Heap) (locs : List Loc) (kc ks : Nat), rz_code M pc = some (kd, ins, len, x, y, z) →
    ((kd = 2 ∧ ∃ v, rz_end (rz_rt M) st = some v ∧ r = .inl v) ∨ (kd = 3 ∧ st = [] ∧ r = .inr x ∧ kc + 1 ≤ rz_MC M ∧ ks + 6 ≤ rz_MS M)) →
    ls.size = rz_mL M → kc ≤ rz_MC M → ks ≤ rz_MS M → va_P D rz_cl (rz_ws cI cJ ad w') H → va_D A (rz_ws cI cJ ad w') → va_S A s.heap H locs →
    W p l e R s m args below meth c H locs kc ks Q (F0 m pc ls (st.map (rz_v ad)))
def rz_FR (l : Launch) (xs : Nat → Int32) (xl : Nat) (D : va_G) (cI cJ : ClassId) (ad : Nat → Nat) (n : Nat) : Prop :=
  ∀ (M pc : Nat) (L : rz_L) (st : List Value) (w : rz_W) (kc ks : Nat) (r : rz_R) (w' : rz_W), rz_run xs xl n M pc L st w kc ks = some (r, w') →
  ∀ (p : Program) (e : Env) (R : Room) (s : State) (m : MethodId) (args : Array Value) (below : List Frame) (meth : Method) (c : Code) (A : Nat → Prop) (Q : State → Prop) (H : Heap) (locs : List Loc) (ls : Array Slot),
    rz_Cx p R s m args c M D cI cJ A → rz_X A s s.heap → c.exceptionTable.toList.map (fun h => (h.startPc, h.endPc, h.handlerPc, h.catchType)) = rz_hd M →
    (M = 0 → va_X (ad 999) xl xs s s.heap ∧ ad 999 < s.heap.size ∧ ¬ A (ad 999)) →
    va_P D rz_cl (rz_ws cI cJ ad w) H → va_D A (rz_ws cI cJ ad w) → va_S A s.heap H locs → rz_Lr ad ls (rz_mL M) L → kc ≤ rz_MC M → ks ≤ rz_MS M →
    rz_Hend p l e R s m args below meth c M D cI cJ ad A Q r w' →
    W p l e R s m args below meth c H locs kc ks Q (F0 m pc ls (st.map (rz_v ad)))
theorem rz_Wmono {p : Program} {l : Launch} {e : Env} {R : Room} {s : State} {m : MethodId} {args : Array Value} {below : List Frame} {meth : Method} {c : Code} {H : Heap} {locs : List Loc} {cells slots : Nat} {Q Q' : State → Prop} {g : JFrame} (h : ∀ t, Q t → Q' t)
    (k : W p l e R s m args below meth c H locs cells slots Q g) : W p l e R s m args below meth c H locs cells slots Q' g := fun T hT X => by
  obtain ⟨t, a, b⟩ := k T hT X
  exact ⟨t, a, h t b⟩
theorem rz_args_mem : ∀ (vs : List Value) (k i : Nat) (v : Value), (∀ u ∈ vs, u.category = 1) → vs[i]? = some v → (k + i, v) ∈ lv_args k vs := by
  intro vs
  induction vs with
  | nil => intro k i v _ h; simp at h
  | cons a t ih =>
    intro k i v hc h
    have ha : a.category = 1 := hc a List.mem_cons_self
    rw [lv_args, if_neg (by omega)]
    cases i with
    | zero => simp at h; subst h; exact List.mem_cons_self
    | succ i =>
      have := ih (k + 1) i v (fun u hu => hc u (List.mem_cons_of_mem _ hu)) (by simpa using h)
      rw [show k + (i + 1) = k + 1 + i by omega]
      exact List.mem_cons_of_mem _ this
theorem rz_sl_len : ∀ (vs : List Value), (∀ u ∈ vs, u.category = 1) → (lg_sl vs).length = vs.length := by
  intro vs
  induction vs with
  | nil => intro _; rfl
  | cons a t ih =>
    intro hc
    have ha : a.category = 1 := hc a List.mem_cons_self
    have := ih (fun u hu => hc u (List.mem_cons_of_mem _ hu))
    simp only [lg_sl, List.flatMap_cons, List.length_append, List.length_cons] at this ⊢
    rw [if_neg (by omega)]
    simp only [List.length_cons, List.length_nil]
    omega
theorem rz_ok2 {M pc len x y z : Nat} {ins : Instr} (h : rz_ok M pc (2, ins, len, x, y, z) = true) : ((rz_rt M = none ∧ decode (rz_by M) pc = .ok (.return_, 1)) ∨ (rz_rt M = some .int ∧ decode (rz_by M) pc = .ok (.ireturn, 1)) ∨ (rz_rt M = some .boolean ∧ decode (rz_by M) pc = .ok (.ireturn, 1))) := by
  have hd1 : decode (rz_by M) pc = .ok (ins, len) := of_decide_eq_true (Bool.and_eq_true_iff.mp h).1
  have h2 := (Bool.and_eq_true_iff.mp (Bool.and_eq_true_iff.mp h).2).1
  have a1 : len = 1 := of_decide_eq_true (Bool.and_eq_true_iff.mp (Bool.and_eq_true_iff.mp h).2).2
  have h1 : decode (rz_by M) pc = .ok (ins, 1) := by rw [hd1, a1]
  have h3 : (match (generalizing := false) rz_rt M with
    | none => decide (ins = .return_)
    | some .int => decide (ins = .ireturn)
    | some .boolean => decide (ins = .ireturn)
    | _ => false) = true := h2
  clear h2
  cases hr : rz_rt M with
  | none =>
    rw [hr] at h3
    have : ins = .return_ := of_decide_eq_true h3
    exact Or.inl ⟨rfl, by rw [h1, this]⟩
  | some ty =>
    rw [hr] at h3
    cases ty <;> first | exact absurd (show false = true from h3) (by decide) | skip
    all_goals
      have hi : ins = .ireturn := of_decide_eq_true h3
      subst hi
    all_goals first | exact Or.inr (Or.inl ⟨rfl, h1⟩) | exact Or.inr (Or.inr ⟨rfl, h1⟩)
theorem rz_end_n {st : List Value} {v : Option Value} (h : rz_end none st = some v) : st = [] ∧ v = none := by
  cases st with
  | nil => simp [rz_end] at h; exact ⟨rfl, h.symm⟩
  | cons a t => simp [rz_end] at h
theorem rz_end_i {st : List Value} {v : Option Value} (h : rz_end (some .int) st = some v) : ∃ a, st = [.int a] ∧ v = some (.int a) := by
  cases st with
  | nil => simp [rz_end] at h
  | cons a t =>
    cases t with
    | nil => cases a <;> simp [rz_end] at h; exact ⟨_, rfl, h.symm⟩
    | cons b t => cases a <;> simp [rz_end] at h
theorem rz_end_z {st : List Value} {v : Option Value} (h : rz_end (some .boolean) st = some v) : ∃ a, st = [.int a] ∧ v = some (.int a) ∧ (a = 0 ∨ a = 1) := by
  cases st with
  | nil => simp [rz_end] at h
  | cons a t =>
    cases t with
    | nil => cases a <;> simp [rz_end] at h; exact ⟨_, rfl, h.2.symm, h.1⟩
    | cons b t => cases a <;> simp [rz_end] at h
theorem rz_Lr_ent {ad : Nat → Nat} {M : Nat} {av : List Value} {ls : Array Slot} (hav : av.length ≤ rz_mL M) (hcat : ∀ v ∈ av, v.category = 1) (hl : lv_has ls (rz_mL M) (lv_args 0 (av.map (rz_v ad)))) : rz_Lr ad ls (rz_mL M) (rz_ent M av) := by
  refine ⟨hl.1, hl.2.1, by simp [rz_ent]; omega, fun i v hi => ?_⟩
  unfold rz_ent at hi
  by_cases hlt : i < av.length
  · rw [List.getElem?_append_left (by simpa using hlt), List.getElem?_map] at hi
    cases ha : av[i]? with
    | none => rw [ha] at hi; cases hi
    | some u =>
      rw [ha] at hi
      cases hi
      have hm : (0 + i, rz_v ad v) ∈ lv_args 0 (av.map (rz_v ad)) := rz_args_mem _ 0 i _ (fun u hu => by
        obtain ⟨q, hq, rfl⟩ := List.mem_map.mp hu
        rw [rz_v_cat]; exact hcat q hq) (by rw [List.getElem?_map, ha]; rfl)
      rw [Nat.zero_add] at hm
      exact ⟨hcat v (List.mem_of_getElem? ha), hl.2.2 _ hm⟩
  · rw [List.getElem?_append_right (by simpa using Nat.not_lt.mp hlt)] at hi
    rw [List.getElem?_replicate] at hi
    split at hi <;> cases hi
set_option maxHeartbeats 4000000 in
theorem rz_met_of {l : Launch} (hl : l.stackTraces = false) {xs : Nat → Int32} {xl : Nat} {D : va_G} {cI cJ : ClassId} {ad : Nat → Nat} {n : Nat} (F : rz_FR l xs xl D cI cJ ad n) {M : Nat} (h0 : 0 < M) (h1 : M < 112) {av : List Value} {w w' : rz_W} {r : rz_R}
    (hrun : rz_run xs xl n M 0 (rz_ent M av) [] w 0 0 = some (r, w')) (hav : av.length = rz_na M) (hcat : ∀ v ∈ av, v.category = 1) : rz_Met l M D cI cJ ad av w r w' := by
  have hM := rz_mok_of h0 h1
  obtain ⟨-, -, hplain, hna⟩ := rz_mok_ini hM
  refine MetFree.of_bodyS (code := rz_by M) (maxLocals := rz_mL M) (ret := rz_rt M) hplain ?_ ?_
  · intro args s m h hn
    obtain ⟨mk, meth, c, a0, a1, a2, a3, a4, -, a6, a7, -⟩ := rz_codeS hM (atoms_spec (ws := rz_tw) h)
    cases hn.symm.trans a0
    exact ⟨meth, c, a1, a2, a3, a4, a6, a7⟩
  · intro p e s m args below meth c s₁ B hml hP _
    obtain ⟨rfl, hP0, hD0, hK, hX⟩ := hP
    have hts := atoms_spec (ws := rz_tw) B.pre
    have hown : s.vm.findClass (rz_y M).cls = some m.cls := findClass_of_methodNamed B.named
    have X₀ := Stand.of_body B
    have hh0 : s₁.heap = s.heap := by rw [B.state]; rfl
    have hh : c.exceptionTable.toList.map (fun h => (h.startPc, h.endPc, h.handlerPc, h.catchType)) = rz_hd M := by
      obtain ⟨mk, meth', c', a0, a1, a2, -, -, a5, -⟩ := rz_codeS hM hts
      cases B.named.symm.trans a0
      cases B.method.symm.trans a1
      cases X₀.code.symm.trans a2
      exact a5
    have hlv := lv_entry (av.map (rz_v ad)) (n := rz_mL M) (by
      rw [rz_sl_len _ (fun u hu => by
        obtain ⟨q, hq, rfl⟩ := List.mem_map.mp hu
        rw [rz_v_cat]; exact hcat q hq), List.length_map, hav]
      exact hna)
    have K : W p l e (rz_rm M) s m (av.map (rz_v ad)).toArray below meth c s.heap [] 0 0 (fun t => ∃ o, t.status = .running ∧ Ended t below o ∧ rz_Qc M D cI cJ ad w r w' (av.map (rz_v ad)).toArray s o t) (entryFrame m (av.map (rz_v ad)).toArray (rz_mL M)) := by
      rw [lg_entry_eq]
      refine F M 0 (rz_ent M av) [] w 0 0 r w' hrun p e (rz_rm M) s m (av.map (rz_v ad)).toArray below meth c (va_A (rz_ws cI cJ ad w) s.heap.size) _ s.heap [] _ ⟨B.exec, B.bytes, hml, hown, hts, hK, fun q h => Or.inr h, rfl⟩
        (hX.go (State.WarmedH.refl s) (fun _ _ _ => rfl) (fun q hq h => h.elim (fun h => h) (fun h => absurd hq (by omega)))) hh (fun h => absurd h (by omega)) hP0 hD0.self va_S.rf (rz_Lr_ent (by omega) hcat hlv) (Nat.zero_le _) (Nat.zero_le _) ?_
      intro pc ins len x y z kd st ls H locs kc ks hcd hcase hls hkc hks hP' hD' hS'
      rcases hcase with ⟨rfl, v, hv, rfl⟩ | ⟨rfl, rfl, rfl, hc1, hs1⟩
      · refine W.widen (k := rz_MC M) (n := rz_MS M) hkc hks ?_
        have fin : ∀ (u : Option Value), u.map (rz_v ad) = v.map (rz_v ad) → ∀ t, MQ below (fun _ _ o t => o = .returned (u.map (rz_v ad)) ∧ t.heap = H) (av.map (rz_v ad)).toArray s (rz_MC M) (rz_MS M) (va_A (rz_ws cI cJ ad w) s.heap.size) t → ∃ o, t.status = .running ∧ Ended t below o ∧ rz_Qc M D cI cJ ad w (.inl v) w' (av.map (rz_v ad)).toArray s o t := by
          rintro u hu t ⟨o, a1, a2, ⟨rfl, a4⟩, Ls, ⟨-, a5, a6⟩, a7⟩
          exact ⟨_, a1, a2, by rw [a4]; exact hP', hD', a5, hS'.F a4, ⟨Ls, a6, a7⟩, by rw [hu]; rfl⟩
        rcases rz_ok2 (rz_all hcd) with ⟨hrt, hdg⟩ | ⟨hrt, hdg⟩ | ⟨hrt, hdg⟩
        · rw [hrt] at hv
          obtain ⟨rfl, rfl⟩ := rz_end_n hv
          exact rz_Wmono (fin none rfl) (W.vret B.exec B.bytes (B.returns.trans hrt) (fun t ht hW => ⟨rfl, ht⟩) hS'.2.2 hdg)
        · rw [hrt] at hv
          obtain ⟨a, rfl, rfl⟩ := rz_end_i hv
          exact rz_Wmono (fin (some (.int a)) rfl) (W.iret (v := a) B.exec B.bytes (B.returns.trans hrt) (fun t ht hW => ⟨rfl, ht⟩) hS'.2.2 hdg)
        · rw [hrt] at hv
          obtain ⟨a, rfl, rfl, h01⟩ := rz_end_z hv
          refine rz_Wmono (fin (some (.int a)) rfl) (W.zret (v := a) (ty := .boolean) B.exec B.bytes (B.returns.trans hrt) ?_ (fun t ht hW => ⟨rfl, ht⟩) hS'.2.2 hdg)
          rcases h01 with rfl | rfl <;> decide +kernel
      · refine rz_Wmono ?_ (rz_throwW hl B.exec B.bytes hml hown hts hX rfl B.notSynchronized hh (fun a h1 h2 => hS'.2.1 a h1 (fun h => h2 (h.elim (fun h => h) (fun h => absurd h1 (by omega))))) hls hcd hc1 hs1)
        rintro t ⟨q, ce, b1, b2, b3, b4, b5, b6, b7, b8, b9, b10⟩
        refine ⟨_, b1, b2, hP'.kept (fun k q hk => b10 q.1 ((hP' k q hk).lt)), hD', b3, ⟨Nat.le_trans hS'.1 b9, fun q h1 h2 => ?_⟩, ⟨locs, b4.mono hc1 hs1, hS'.2.2⟩, q, ce, rfl, b5, b6, b7, b8⟩
        rw [b10 q (Nat.lt_of_lt_of_le h1 hS'.1)]
        exact hS'.2.1 q h1 h2
    obtain ⟨t, a1, o, b1, b2, b3⟩ := K s₁ hh0 X₀
    exact ⟨t, o, a1, b1, b2, b3⟩
