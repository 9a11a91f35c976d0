/-! the whole run of a frame of the abstract machine is the machine's walk; a method's run is its contract -/
def rz_Hend (p : Program) (l : Launch) (e : Env) (R : Room) (s : State) (m : MethodId) (args : Array Value) (below : List Frame) (meth : Method) (c : Code) (M : Nat) (D : va_G) (cI cJ : ClassId) (ad : Nat → Nat) (A : Nat → Prop) (Q : State → Prop) (r : rz_R) (w' : rz_W) : Prop :=
  ∀ (pc : Nat) (ins : Instr) (len x y z kd : Nat) (st : List Value) (ls : Array Slot) (H : Heap) (locs : List Loc) (kc ks : Nat), rz_code M pc = some (kd, ins, len, x, y, z) →
    ((kd = 2 ∧ ∃ v, rz_end (rz_rt M) st = some v ∧ r = .inl v) ∨ (kd = 3 ∧ st = [] ∧ r = .inr x ∧ kc + 1 ≤ rz_MC M ∧ ks + 6 ≤ rz_MS M)) →
    ls.size = rz_mL M → kc ≤ rz_MC M → ks ≤ rz_MS M → va_P D rz_cl (rz_ws cI cJ ad w') H → va_D A (rz_ws cI cJ ad w') → va_S A s.heap H locs →
    W p l e R s m args below meth c H locs kc ks Q (F0 m pc ls (st.map (rz_v ad)))
def rz_FR (l : Launch) (xs : Nat → Int32) (xl : Nat) (D : va_G) (cI cJ : ClassId) (ad : Nat → Nat) (n : Nat) : Prop :=
  ∀ (M pc : Nat) (L : rz_L) (st : List Value) (w : rz_W) (kc ks : Nat) (r : rz_R) (w' : rz_W), rz_run xs xl n M pc L st w kc ks = some (r, w') →
  ∀ (p : Program) (e : Env) (R : Room) (s : State) (m : MethodId) (args : Array Value) (below : List Frame) (meth : Method) (c : Code) (A : Nat → Prop) (Q : State → Prop) (H : Heap) (locs : List Loc) (ls : Array Slot),
    rz_Cx p R s m args c M D cI cJ A → rz_X A s s.heap → c.exceptionTable.toList.map (fun h => (h.startPc, h.endPc, h.handlerPc, h.catchType)) = rz_hd M →
    (M = 0 → va_X (ad 999) xl xs s s.heap ∧ ad 999 < s.heap.size ∧ ¬ A (ad 999)) →
    va_P D rz_cl (rz_ws cI cJ ad w) H → va_D A (rz_ws cI cJ ad w) → va_S A s.heap H locs → rz_Lr ad ls (rz_mL M) L → kc ≤ rz_MC M → ks ≤ rz_MS M →
    rz_Hend p l e R s m args below meth c M D cI cJ ad A Q r w' →
    W p l e R s m args below meth c H locs kc ks Q (F0 m pc ls (st.map (rz_v ad)))
theorem rz_Wmono {p : Program} {l : Launch} {e : Env} {R : Room} {s : State} {m : MethodId} {args : Array Value} {below : List Frame} {meth : Method} {c : Code} {H : Heap} {locs : List Loc} {cells slots : Nat} {Q Q' : State → Prop} {g : JFrame} (h : ∀ t, Q t → Q' t)
    (k : W p l e R s m args below meth c H locs cells slots Q g) : W p l e R s m args below meth c H locs cells slots Q' g := fun T hT X => by
  obtain ⟨t, a, b⟩ := k T hT X
  exact ⟨t, a, h t b⟩
theorem rz_args_mem : ∀ (vs : List Value) (k i : Nat) (v : Value), (∀ u ∈ vs, u.category = 1) → vs[i]? = some v → (k + i, v) ∈ lv_args k vs := by
  intro vs
  induction vs with
  | nil => intro k i v _ h; simp at h
  | cons a t ih =>
    intro k i v hc h
    have ha : a.category = 1 := hc a List.mem_cons_self
    rw [lv_args, if_neg (by omega)]
    cases i with
    | zero => simp at h; subst h; exact List.mem_cons_self
    | succ i =>
      have := ih (k + 1) i v (fun u hu => hc u (List.mem_cons_of_mem _ hu)) (by simpa using h)
      rw [show k + (i + 1) = k + 1 + i by omega]
      exact List.mem_cons_of_mem _ this
theorem rz_sl_len : ∀ (vs : List Value), (∀ u ∈ vs, u.category = 1) → (lg_sl vs).length = vs.length := by
  intro vs
  induction vs with
  | nil => intro _; rfl
  | cons a t ih =>
    intro hc
    have ha : a.category = 1 := hc a List.mem_cons_self
    have := ih (fun u hu => hc u (List.mem_cons_of_mem _ hu))
    simp only [lg_sl, List.flatMap_cons, List.length_append, List.length_cons] at this ⊢
    rw [if_neg (by omega)]
    simp only [List.length_cons, List.length_nil]
    omega
theorem rz_ok2 {M pc len x y z : Nat} {ins : Instr} (h : rz_ok M pc (2, ins, len, x, y, z) = true) : ((rz_rt M = none ∧ decode (rz_by M) pc = .ok (.return_, 1)) ∨ (rz_rt M = some .int ∧ decode (rz_by M) pc = .ok (.ireturn, 1)) ∨ (rz_rt M = some .boolean ∧ decode (rz_by M) pc = .ok (.ireturn, 1))) := by
  have hd1 : decode (rz_by M) pc = .ok (ins, len) := of_decide_eq_true (Bool.and_eq_true_iff.mp h).1
  have h2 := (Bool.and_eq_true_iff.mp (Bool.and_eq_true_iff.mp h).2).1
  have a1 : len = 1 := of_decide_eq_true (Bool.and_eq_true_iff.mp (Bool.and_eq_true_iff.mp h).2).2
  have h1 : decode (rz_by M) pc = .ok (ins, 1) := by rw [hd1, a1]
  have h3 : (match (generalizing := false) rz_rt M with
    | none => decide (ins = .return_)
    | some .int => decide (ins = .ireturn)
    | some .boolean => decide (ins = .ireturn)
    | _ => false) = true := h2
  clear h2
  cases hr : rz_rt M with
  | none =>
    rw [hr] at h3
    have : ins = .return_ := of_decide_eq_true h3
    exact Or.inl ⟨rfl, by rw [h1, this]⟩
  | some ty =>
    rw [hr] at h3
    cases ty <;> first | exact absurd (show false = true from h3) (by decide) | skip
    all_goals
      have hi : ins = .ireturn := of_decide_eq_true h3
      subst hi
    all_goals first | exact Or.inr (Or.inl ⟨rfl, h1⟩) | exact Or.inr (Or.inr ⟨rfl, h1⟩)
theorem rz_end_n {st : List Value} {v : Option Value} (h : rz_end none st = some v) : st = [] ∧ v = none := by
  cases st with
  | nil => simp [rz_end] at h; exact ⟨rfl, h.symm⟩
  | cons a t => simp [rz_end] at h
theorem rz_end_i {st : List Value} {v : Option Value} (h : rz_end (some .int) st = some v) : ∃ a, st = [.int a] ∧ v = some (.int a) := by
  cases st with
  | nil => simp [rz_end] at h
  | cons a t =>
    cases t with
    | nil => cases a <;> simp [rz_end] at h; exact ⟨_, rfl, h.symm⟩
    | cons b t => cases a <;> simp [rz_end] at h
theorem rz_end_z {st : List Value} {v : Option Value} (h : rz_end (some .boolean) st = some v) : ∃ a, st = [.int a] ∧ v = some (.int a) ∧ (a = 0 ∨ a = 1) := by
  cases st with
  | nil => simp [rz_end] at h
  | cons a t =>
    cases t with
    | nil => cases a <;> simp [rz_end] at h; exact ⟨_, rfl, h.2.symm, h.1⟩
    | cons b t => cases a <;> simp [rz_end] at h
theorem rz_Lr_ent {ad : Nat → Nat} {M : Nat} {av : List Value} {ls : Array Slot} (hav : av.length ≤ rz_mL M) (hcat : ∀ v ∈ av, v.category = 1) (hl : lv_has ls (rz_mL M) (lv_args 0 (av.map (rz_v ad)))) : rz_Lr ad ls (rz_mL M) (rz_ent M av) := by
  refine ⟨hl.1, hl.2.1, by simp [rz_ent]; omega, fun i v hi => ?_⟩
  unfold rz_ent at hi
  by_cases hlt : i < av.length
  · rw [List.getElem?_append_left (by simpa using hlt), List.getElem?_map] at hi
    cases ha : av[i]? with
    | none => rw [ha] at hi; cases hi
    | some u =>
      rw [ha] at hi
      cases hi
      have hm : (0 + i, rz_v ad v) ∈ lv_args 0 (av.map (rz_v ad)) := rz_args_mem _ 0 i _ (fun u hu => by
        obtain ⟨q, hq, rfl⟩ := List.mem_map.mp hu
        rw [rz_v_cat]; exact hcat q hq) (by rw [List.getElem?_map, ha]; rfl)
      rw [Nat.zero_add] at hm
      exact ⟨hcat v (List.mem_of_getElem? ha), hl.2.2 _ hm⟩
  · rw [List.getElem?_append_right (by simpa using Nat.not_lt.mp hlt)] at hi
    rw [List.getElem?_replicate] at hi
    split at hi <;> cases hi
set_option maxHeartbeats 4000000 in
theorem rz_met_of {l : Launch} (hl : l.stackTraces = false) {xs : Nat → Int32} {xl : Nat} {D : va_G} {cI cJ : ClassId} {ad : Nat → Nat} {n : Nat} (F : rz_FR l xs xl D cI cJ ad n) {M : Nat} (h0 : 0 < M) (h1 : M < 112) {av : List Value} {w w' : rz_W} {r : rz_R}
    (hrun : rz_run xs xl n M 0 (rz_ent M av) [] w 0 0 = some (r, w')) (hav : av.length = rz_na M) (hcat : ∀ v ∈ av, v.category = 1) : rz_Met l M D cI cJ ad av w r w' := by
  have hM := rz_mok_of h0 h1
  obtain ⟨-, -, hplain, hna⟩ := rz_mok_ini hM
  refine MetFree.of_bodyS (code := rz_by M) (maxLocals := rz_mL M) (ret := rz_rt M) hplain ?_ ?_
  · intro args s m h hn
    obtain ⟨mk, meth, c, a0, a1, a2, a3, a4, -, a6, a7, -⟩ := rz_codeS hM (atoms_spec (ws := rz_tw) h)
    cases hn.symm.trans a0
    exact ⟨meth, c, a1, a2, a3, a4, a6, a7⟩
  · intro p e s m args below meth c s₁ B hml hP _
    obtain ⟨rfl, hP0, hD0, hK, hX⟩ := hP
    have hts := atoms_spec (ws := rz_tw) B.pre
    have hown : s.vm.findClass (rz_y M).cls = some m.cls := findClass_of_methodNamed B.named
    have X₀ := Stand.of_body B
    have hh0 : s₁.heap = s.heap := by rw [B.state]; rfl
    have hh : c.exceptionTable.toList.map (fun h => (h.startPc, h.endPc, h.handlerPc, h.catchType)) = rz_hd M := by
      obtain ⟨mk, meth', c', a0, a1, a2, -, -, a5, -⟩ := rz_codeS hM hts
      cases B.named.symm.trans a0
      cases B.method.symm.trans a1
      cases X₀.code.symm.trans a2
      exact a5
    have hlv := lv_entry (av.map (rz_v ad)) (n := rz_mL M) (by
      rw [rz_sl_len _ (fun u hu => by
        obtain ⟨q, hq, rfl⟩ := List.mem_map.mp hu
        rw [rz_v_cat]; exact hcat q hq), List.length_map, hav]
      exact hna)
    have K : W p l e (rz_rm M) s m (av.map (rz_v ad)).toArray below meth c s.heap [] 0 0 (fun t => ∃ o, t.status = .running ∧ Ended t below o ∧ rz_Qc M D cI cJ ad w r w' (av.map (rz_v ad)).toArray s o t) (entryFrame m (av.map (rz_v ad)).toArray (rz_mL M)) := by
      rw [lg_entry_eq]
      refine F M 0 (rz_ent M av) [] w 0 0 r w' hrun p e (rz_rm M) s m (av.map (rz_v ad)).toArray below meth c (va_A (rz_ws cI cJ ad w) s.heap.size) _ s.heap [] _ ⟨B.exec, B.bytes, hml, hown, hts, hK, fun q h => Or.inr h, rfl⟩
        (hX.go (State.WarmedH.refl s) (fun _ _ _ => rfl) (fun q hq h => h.elim (fun h => h) (fun h => absurd hq (by omega)))) hh (fun h => absurd h (by omega)) hP0 hD0.self va_S.rf (rz_Lr_ent (by omega) hcat hlv) (Nat.zero_le _) (Nat.zero_le _) ?_
      intro pc ins len x y z kd st ls H locs kc ks hcd hcase hls hkc hks hP' hD' hS'
      rcases hcase with ⟨rfl, v, hv, rfl⟩ | ⟨rfl, rfl, rfl, hc1, hs1⟩
      · refine W.widen (k := rz_MC M) (n := rz_MS M) hkc hks ?_
        have fin : ∀ (u : Option Value), u.map (rz_v ad) = v.map (rz_v ad) → ∀ t, MQ below (fun _ _ o t => o = .returned (u.map (rz_v ad)) ∧ t.heap = H) (av.map (rz_v ad)).toArray s (rz_MC M) (rz_MS M) (va_A (rz_ws cI cJ ad w) s.heap.size) t → ∃ o, t.status = .running ∧ Ended t below o ∧ rz_Qc M D cI cJ ad w (.inl v) w' (av.map (rz_v ad)).toArray s o t := by
          rintro u hu t ⟨o, a1, a2, ⟨rfl, a4⟩, Ls, ⟨-, a5, a6⟩, a7⟩
          exact ⟨_, a1, a2, by rw [a4]; exact hP', hD', a5, hS'.F a4, ⟨Ls, a6, a7⟩, by rw [hu]; rfl⟩
        rcases rz_ok2 (rz_all hcd) with ⟨hrt, hdg⟩ | ⟨hrt, hdg⟩ | ⟨hrt, hdg⟩
        · rw [hrt] at hv
          obtain ⟨rfl, rfl⟩ := rz_end_n hv
          exact rz_Wmono (fin none rfl) (W.vret B.exec B.bytes (B.returns.trans hrt) (fun t ht hW => ⟨rfl, ht⟩) hS'.2.2 hdg)
        · rw [hrt] at hv
          obtain ⟨a, rfl, rfl⟩ := rz_end_i hv
          exact rz_Wmono (fin (some (.int a)) rfl) (W.iret (v := a) B.exec B.bytes (B.returns.trans hrt) (fun t ht hW => ⟨rfl, ht⟩) hS'.2.2 hdg)
        · rw [hrt] at hv
          obtain ⟨a, rfl, rfl, h01⟩ := rz_end_z hv
          refine rz_Wmono (fin (some (.int a)) rfl) (W.zret (v := a) (ty := .boolean) B.exec B.bytes (B.returns.trans hrt) ?_ (fun t ht hW => ⟨rfl, ht⟩) hS'.2.2 hdg)
          rcases h01 with rfl | rfl <;> decide +kernel
      · refine rz_Wmono ?_ (rz_throwW hl B.exec B.bytes hml hown hts hX rfl B.notSynchronized hh (fun a h1 h2 => hS'.2.1 a h1 (fun h => h2 (h.elim (fun h => h) (fun h => absurd h1 (by omega))))) hls hcd hc1 hs1)
        rintro t ⟨q, ce, b1, b2, b3, b4, b5, b6, b7, b8, b9, b10⟩
        refine ⟨_, b1, b2, hP'.kept (fun k q hk => b10 q.1 ((hP' k q hk).lt)), hD', b3, ⟨Nat.le_trans hS'.1 b9, fun q h1 h2 => ?_⟩, ⟨locs, b4.mono hc1 hs1, hS'.2.2⟩, q, ce, rfl, b5, b6, b7, b8⟩
        rw [b10 q (Nat.lt_of_lt_of_le h1 hS'.1)]
        exact hS'.2.1 q h1 h2
    obtain ⟨t, a1, o, b1, b2, b3⟩ := K s₁ hh0 X₀
    exact ⟨t, o, a1, b1, b2, b3⟩
