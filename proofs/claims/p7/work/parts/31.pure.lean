/-! a pure instruction of the abstract machine is the machine's step -/
section RZP
variable {p : Program} {l : Launch} {e : Env} {R : Room} {s : State} {m : MethodId} {args : Array Value} {below : List Frame} {meth : Method} {c : Code} {H : Heap} {locs : List Loc} {cells slots : Nat} {Q : State → Prop}
variable {M : Nat} {D : va_G} {cI cJ : ClassId} {ad : Nat → Nat} {A : Nat → Prop}
theorem rz_cmp_t {c : Jvm.ClassFile.Cond} {a b : Int32} {x y : Nat} (h : rz_cmp c a b = true) : (if rz_cmp c a b = true then x else y) = x := if_pos h
theorem rz_cmp_f {c : Jvm.ClassFile.Cond} {a b : Int32} {x y : Nat} (h : ¬ rz_cmp c a b = true) : (if rz_cmp c a b = true then x else y) = y := if_neg h
theorem rz_tg_eq {pc : Nat} {off : Int} (h : 0 ≤ (pc : Int) + off) : (pc : Int) + off = ((rz_tg pc off : Nat) : Int) := by
  unfold rz_tg; omega
set_option maxHeartbeats 4000000 in
theorem rz_branch1 {cc : ByteArray} {pc tgt : Nat} {ls : Array Slot} {rest : List Value} {off : Int} {cd : Jvm.ClassFile.Cond} {a : Int32} (hx : p.tables.exec = Jvm.exec) (hb : c.code = cc) (hdg : decode cc pc = .ok (.ifCond cd off, 3)) (ht : (pc : Int) + off = (tgt : Int))
    (kk : W p l e R s m args below meth c H locs cells slots Q (F0 m (if rz_cmp cd a 0 = true then tgt else pc + 3) ls rest)) : W p l e R s m args below meth c H locs cells slots Q (F0 m pc ls (.int a :: rest)) := by
  cases cd
  all_goals first
    | exact lv_if_eq hx hb hdg ht (fun h => by rwa [if_pos (by simpa [rz_cmp] using h)] at kk) (fun h => by rwa [if_neg (by simpa [rz_cmp] using h)] at kk)
    | exact lv_if_ne hx hb hdg ht (fun h => by rwa [if_pos (by simpa [rz_cmp] using h)] at kk) (fun h => by rwa [if_neg (by simpa [rz_cmp] using h)] at kk)
    | exact lv_if_lt hx hb hdg ht (fun h => by rwa [if_pos (by simpa [rz_cmp] using h)] at kk) (fun h => by rwa [if_neg (by simpa [rz_cmp] using h)] at kk)
    | exact lv_if_ge hx hb hdg ht (fun h => by rwa [if_pos (by simpa [rz_cmp] using h)] at kk) (fun h => by rwa [if_neg (by simpa [rz_cmp] using h)] at kk)
    | exact lv_if_gt hx hb hdg ht (fun h => by rwa [if_pos (by simpa [rz_cmp] using h)] at kk) (fun h => by rwa [if_neg (by simpa [rz_cmp] using h)] at kk)
    | exact lv_if_le hx hb hdg ht (fun h => by rwa [if_pos (by simpa [rz_cmp] using h)] at kk) (fun h => by rwa [if_neg (by simpa [rz_cmp] using h)] at kk)
set_option maxHeartbeats 4000000 in
theorem rz_branch2 {cc : ByteArray} {pc tgt : Nat} {ls : Array Slot} {rest : List Value} {off : Int} {cd : Jvm.ClassFile.Cond} {a b : Int32} (hx : p.tables.exec = Jvm.exec) (hb : c.code = cc) (hdg : decode cc pc = .ok (.if_icmp cd off, 3)) (ht : (pc : Int) + off = (tgt : Int))
    (kk : W p l e R s m args below meth c H locs cells slots Q (F0 m (if rz_cmp cd a b = true then tgt else pc + 3) ls rest)) : W p l e R s m args below meth c H locs cells slots Q (F0 m pc ls (.int b :: .int a :: rest)) := by
  cases cd
  all_goals first
    | exact lv_icmp_eq hx hb hdg ht (fun h => by rwa [if_pos (by simpa [rz_cmp] using h)] at kk) (fun h => by rwa [if_neg (by simpa [rz_cmp] using h)] at kk)
    | exact lv_icmp_ne hx hb hdg ht (fun h => by rwa [if_pos (by simpa [rz_cmp] using h)] at kk) (fun h => by rwa [if_neg (by simpa [rz_cmp] using h)] at kk)
    | exact lv_icmp_lt hx hb hdg ht (fun h => by rwa [if_pos (by simpa [rz_cmp] using h)] at kk) (fun h => by rwa [if_neg (by simpa [rz_cmp] using h)] at kk)
    | exact lv_icmp_ge hx hb hdg ht (fun h => by rwa [if_pos (by simpa [rz_cmp] using h)] at kk) (fun h => by rwa [if_neg (by simpa [rz_cmp] using h)] at kk)
    | exact lv_icmp_gt hx hb hdg ht (fun h => by rwa [if_pos (by simpa [rz_cmp] using h)] at kk) (fun h => by rwa [if_neg (by simpa [rz_cmp] using h)] at kk)
    | exact lv_icmp_le hx hb hdg ht (fun h => by rwa [if_pos (by simpa [rz_cmp] using h)] at kk) (fun h => by rwa [if_neg (by simpa [rz_cmp] using h)] at kk)
theorem rz_nar {ty : FieldType} {v : Value} {ad : Nat → Nat} (h : rz_fit ty v = true) : narrow ty (rz_v ad v) = rz_v ad v ∧ fits ty (rz_v ad v) = true := by
  cases ty <;> cases v <;> simp [rz_fit] at h <;> first
    | exact ⟨rfl, rfl⟩
    | (rcases h with rfl | rfl
       · exact ⟨show narrow .boolean (.int 0) = .int 0 by decide +kernel, rfl⟩
       · exact ⟨show narrow .boolean (.int 1) = .int 1 by decide +kernel, rfl⟩)
theorem rz_ok0 {M pc len x y z : Nat} {ins : Instr} (h : rz_ok M pc (0, ins, len, x, y, z) = true) : decode (rz_by M) pc = .ok (ins, len) ∧ (match (generalizing := false) ins with
    | .tableswitch _ _ _ _ => true
    | .lookupswitch _ _ => true
    | _ => decide (len = rz_ln ins)) = true ∧ rz_okp (rz_y M).cls pc ins x y (rz_hint M pc) = true := by
  have h1 := Bool.and_eq_true_iff.mp h
  have h2 := Bool.and_eq_true_iff.mp h1.2
  exact ⟨of_decide_eq_true h1.1, h2.1, h2.2⟩
set_option maxHeartbeats 8000000 in
set_option maxRecDepth 100000 in
theorem rz_pure_ok {pc pc' x y z len : Nat} {ins : Instr} {L L' : rz_L} {st st' : List Value} {w w' : rz_W} {ls : Array Slot}
    (hk : rz_code M pc = some (0, ins, len, x, y, z)) (hp : rz_pure ins len x y pc L st w = some (pc', L', st', w')) (hC : rz_Cx p R s m args c M D cI cJ A)
    (hP : va_P D rz_cl (rz_ws cI cJ ad w) H) (hD : va_D A (rz_ws cI cJ ad w)) (hS : va_S A s.heap H locs) (hL : rz_Lr ad ls (rz_mL M) L)
    (kk : ∀ (ls' : Array Slot) (H' : Heap) (locs' : List Loc), rz_Lr ad ls' (rz_mL M) L' → va_P D rz_cl (rz_ws cI cJ ad w') H' → va_D A (rz_ws cI cJ ad w') → va_S A s.heap H' locs' → W p l e R s m args below meth c H' locs' cells slots Q (F0 m pc' ls' (st'.map (rz_v ad)))) :
    W p l e R s m args below meth c H locs cells slots Q (F0 m pc ls (st.map (rz_v ad))) := by
  obtain ⟨hx, hb, hml, hown, hts, hK, hA, hR⟩ := hC
  obtain ⟨hdg, hlen, ok⟩ := rz_ok0 (rz_all hk)
  unfold rz_pure at hp
  split at hp
  · -- iconst
    replace hlen : len = 1 := of_decide_eq_true hlen
    subst hlen
    cases hp
    exact lv_iconst hx hb hdg rfl (kk ls H locs hL hP hD hS)
  · replace hlen : len = 2 := of_decide_eq_true hlen
    subst hlen
    cases hp
    exact lv_bipush hx hb hdg rfl (kk ls H locs hL hP hD hS)
  · replace hlen : len = 3 := of_decide_eq_true hlen
    subst hlen
    cases hp
    exact lv_sipush hx hb hdg rfl (kk ls H locs hL hP hD hS)
  · replace hlen : len = 2 := of_decide_eq_true hlen
    subst hlen
    cases hp
    exact lv_ldc hx hb hown (hts _ (rz_use (rz_wd_in ok) rfl)) hdg (kk ls H locs hL hP hD hS)
  · replace hlen : len = 1 := of_decide_eq_true hlen
    subst hlen
    cases hp
    exact lv_lconst hx hb hdg rfl (kk ls H locs hL hP hD hS)
  · -- iload_n
    replace hlen : len = 1 := of_decide_eq_true hlen
    subst hlen
    split at hp
    · rename_i v hv
      cases hp
      exact lv_iload_n hx hb hdg rfl (hL.2.2.2 _ _ hv).2 (kk ls H locs hL hP hD hS)
    · cases hp
  · replace hlen : len = 2 := of_decide_eq_true hlen
    subst hlen
    split at hp
    · rename_i v hv
      cases hp
      exact lv_iload hx hb hdg (hL.2.2.2 _ _ hv).2 (kk ls H locs hL hP hD hS)
    · cases hp
  · replace hlen : len = 1 := of_decide_eq_true hlen
    subst hlen
    split at hp
    · rename_i v hv
      cases hp
      exact lv_aload_n hx hb hdg rfl (hL.2.2.2 _ _ hv).2 (kk ls H locs hL hP hD hS)
    · cases hp
  · replace hlen : len = 2 := of_decide_eq_true hlen
    subst hlen
    split at hp
    · rename_i v hv
      cases hp
      exact lv_aload hx hb hdg (hL.2.2.2 _ _ hv).2 (kk ls H locs hL hP hD hS)
    · cases hp
  · -- istore_n
    replace hlen : len = 1 := of_decide_eq_true hlen
    subst hlen
    split at hp
    · split at hp
      · rename_i k v r hlt
        cases hp
        exact lv_istore_n hx hb hdg rfl hL.has (by rw [← hL.2.2.1]; exact hlt) rfl (fun ls' h' => kk ls' H locs (hL.store (v := .int v) rfl h') hP hD hS)
      · cases hp
    · cases hp
  · replace hlen : len = 2 := of_decide_eq_true hlen
    subst hlen
    split at hp
    · split at hp
      · rename_i k v r hlt
        cases hp
        exact lv_istore hx hb hdg hL.has (by rw [← hL.2.2.1]; exact hlt) rfl (fun ls' h' => kk ls' H locs (hL.store (v := .int v) rfl h') hP hD hS)
      · cases hp
    · cases hp
  · -- iinc
    replace hlen : len = 3 := of_decide_eq_true hlen
    subst hlen
    split at hp
    · rename_i k n _ v hv
      cases hp
      obtain ⟨i0, hi0⟩ := List.getElem?_of_mem (rz_lp_mem (ad := ad) (L := L) (q := (k, .int v)) |>.mpr ⟨.int v, hv, rfl⟩)
      exact lv_iinc hx hb hdg hL.has hi0 rfl (by rw [← hL.2.2.1]; exact (List.getElem?_eq_some_iff.mp hv).1) rfl (fun ls' h' => kk ls' H locs (hL.store (v := .int (v + Int32.ofInt n)) rfl h') hP hD hS)
    · cases hp
  · replace hlen : len = 1 := of_decide_eq_true hlen
    subst hlen
    split at hp
    · cases hp
      exact lv_iadd hx hb hdg (kk ls H locs hL hP hD hS)
    · cases hp
  · replace hlen : len = 1 := of_decide_eq_true hlen
    subst hlen
    split at hp
    · cases hp
      exact lv_isub hx hb hdg (kk ls H locs hL hP hD hS)
    · cases hp
  · replace hlen : len = 1 := of_decide_eq_true hlen
    subst hlen
    split at hp
    · cases hp
      exact lv_imul hx hb hdg (kk ls H locs hL hP hD hS)
    · cases hp
  · replace hlen : len = 1 := of_decide_eq_true hlen
    subst hlen
    split at hp
    · split at hp
      · cases hp
      · rename_i hne
        cases hp
        exact lv_idiv hx hb hdg hne (kk ls H locs hL hP hD hS)
    · cases hp
  · replace hlen : len = 1 := of_decide_eq_true hlen
    subst hlen
    split at hp
    · split at hp
      · cases hp
      · rename_i hne
        cases hp
        exact lv_irem hx hb hdg hne (kk ls H locs hL hP hD hS)
    · cases hp
  · replace hlen : len = 1 := of_decide_eq_true hlen
    subst hlen
    split at hp
    · cases hp
      exact lv_iand hx hb hdg (kk ls H locs hL hP hD hS)
    · cases hp
  · replace hlen : len = 1 := of_decide_eq_true hlen
    subst hlen
    split at hp
    · cases hp
      exact lv_ior hx hb hdg (kk ls H locs hL hP hD hS)
    · cases hp
  · replace hlen : len = 1 := of_decide_eq_true hlen
    subst hlen
    split at hp
    · cases hp
      exact lv_ixor hx hb hdg (kk ls H locs hL hP hD hS)
    · cases hp
  · replace hlen : len = 1 := of_decide_eq_true hlen
    subst hlen
    split at hp
    · cases hp
      exact lv_ishl hx hb hdg (kk ls H locs hL hP hD hS)
    · cases hp
  · replace hlen : len = 1 := of_decide_eq_true hlen
    subst hlen
    split at hp
    · cases hp
      exact lv_ishr hx hb hdg (kk ls H locs hL hP hD hS)
    · cases hp
  · replace hlen : len = 1 := of_decide_eq_true hlen
    subst hlen
    split at hp
    · cases hp
      exact lv_i2l hx hb hdg rfl (kk ls H locs hL hP hD hS)
    · cases hp
  · replace hlen : len = 1 := of_decide_eq_true hlen
    subst hlen
    split at hp
    · cases hp
      exact lv_ladd hx hb hdg (kk ls H locs hL hP hD hS)
    · cases hp
  · replace hlen : len = 1 := of_decide_eq_true hlen
    subst hlen
    split at hp
    · cases hp
      exact W.lcmp hx hb hdg (kk ls H locs hL hP hD hS)
    · cases hp
  · -- pop
    replace hlen : len = 1 := of_decide_eq_true hlen
    subst hlen
    split at hp
    · cases hp
      exact lv_pop hx hb hdg rfl (kk ls H locs hL hP hD hS)
    · cases hp
  · -- dup
    replace hlen : len = 1 := of_decide_eq_true hlen
    subst hlen
    split at hp
    · cases hp
      exact lv_dup hx hb hdg rfl (kk ls H locs hL hP hD hS)
    · cases hp
      exact lv_dup hx hb hdg rfl (kk ls H locs hL hP hD hS)
    · cases hp
  · -- dup2
    replace hlen : len = 1 := of_decide_eq_true hlen
    subst hlen
    split at hp
    · cases hp
      exact lv_dup2_11 hx hb hdg rfl rfl (kk ls H locs hL hP hD hS)
    · cases hp
  · -- goto
    replace hlen : len = 3 := of_decide_eq_true hlen
    subst hlen
    cases hp
    exact lv_goto hx hb hdg (of_decide_eq_true ok) (kk ls H locs hL hP hD hS)
  · -- if_icmp
    replace hlen : len = 3 := of_decide_eq_true hlen
    subst hlen
    split at hp
    · cases hp
      exact rz_branch2 hx hb hdg (of_decide_eq_true ok) (kk ls H locs hL hP hD hS)
    · cases hp
  · replace hlen : len = 3 := of_decide_eq_true hlen
    subst hlen
    split at hp
    · cases hp
      exact rz_branch1 hx hb hdg (of_decide_eq_true ok) (kk ls H locs hL hP hD hS)
    · cases hp
  · -- tableswitch
    split at hp
    · rename_i d lo hi offs _ v r
      cases hp
      unfold rz_okp at ok
      simp only [Bool.and_eq_true, decide_eq_true_eq, List.all_eq_true] at ok
      obtain ⟨o1, o2⟩ := ok
      have kk := kk ls H locs hL hP hD hS
      by_cases hv : v.toInt < lo ∨ hi < v.toInt
      · rw [if_pos hv] at kk
        exact lv_tableOut hx hb hdg hv (rz_tg_eq (o2 d List.mem_cons_self)) kk
      · rw [if_neg hv] at kk
        have h1 : ¬ v.toInt < lo := fun h => hv (Or.inl h)
        have h2 : ¬ hi < v.toInt := fun h => hv (Or.inr h)
        have hsz : (v.toInt - lo).toNat < offs.size := by omega
        have ho : offs[(v.toInt - lo).toNat]? = some (offs.getD (v.toInt - lo).toNat d) := by
          simp [Array.getD, hsz]
        have hm : offs.getD (v.toInt - lo).toNat d ∈ d :: offs.toList := by
          refine List.mem_cons_of_mem _ (Array.mem_toList_iff.mpr ?_)
          exact Array.mem_of_getElem? ho
        exact lv_tableIn hx hb hdg h1 h2 ho (rz_tg_eq (o2 _ hm)) kk
    · cases hp
  · -- lookupswitch
    split at hp
    · rename_i d ps _ v r
      cases hp
      unfold rz_okp at ok
      simp only [Bool.and_eq_true, decide_eq_true_eq] at ok
      obtain ⟨⟨o1, o2⟩, o3⟩ := ok
      have key : ∀ (qs : List (Int × Int)), (∀ q ∈ qs, 0 ≤ (pc : Int) + q.2) → 0 ≤ (pc : Int) + Op.lookupswitch.offset qs d v.toInt := by
        intro qs
        induction qs with
        | nil => intro _; simpa [Op.lookupswitch.offset] using o2
        | cons a t ih =>
          intro h
          have h1 := h a List.mem_cons_self
          have h2 := ih (fun q hq => h q (List.mem_cons_of_mem _ hq))
          simp only [Op.lookupswitch.offset]
          split
          · exact h1
          · exact h2
      exact lv_lookup hx hb hdg o1 rfl (rz_tg_eq (key ps.toList (fun q hq => of_decide_eq_true (List.all_eq_true.mp o3 q hq)))) (kk ls H locs hL hP hD hS)
    · cases hp
  · -- getfield
    replace hlen : len = 3 := of_decide_eq_true hlen
    subst hlen
    unfold rz_okp at ok
    split at hp
    · split at hp
      · split at hp
        · split at hp
          · rename_i idx _ i r _ ci fs hw hci _ v hv
            cases hp
            subst hci
            dsimp only at ok
            split at ok
            · rename_i C T N hcl
              simp only [Bool.and_eq_true, decide_eq_true_eq] at ok
              obtain ⟨⟨o1, o2⟩, o3⟩ := ok
              exact va_get (D := D) (ci := ci) (v := rz_v ad v) (C := C) (T := T) (N := N) hx hb hts (rz_clw_of hcl) hown hK hP i (rz_ws_get hw) hcl y o1 (hts _ (rz_use (rz_wd_in o3) rfl)) (fun q h9 => by rw [o2] at h9; exact h9) (by simp [hv]) hdg (kk ls H locs hL hP hD hS)
            · cases ok
          · cases hp
        · cases hp
      · cases hp
    · cases hp
  · -- putfield
    replace hlen : len = 3 := of_decide_eq_true hlen
    subst hlen
    unfold rz_okp at ok
    split at hp
    · split at hp
      · split at hp
        · rename_i idx _ v i r _ ci fs hw hci
          cases hp
          obtain ⟨rfl, hy, hfit⟩ := hci
          dsimp only at ok
          split at ok
          · rename_i C T N hcl
            simp only [Bool.and_eq_true, decide_eq_true_eq] at ok
            obtain ⟨⟨⟨⟨o1, o2⟩, o3⟩, o4⟩, o5⟩ := ok
            obtain ⟨hn, hf⟩ := rz_nar (ad := ad) hfit
            exact va_put (D := D) (ci := ci) (v := rz_v ad v) (ty := rz_fty ci y) (C := C) (T := T) (N := N) hx hb hts (rz_clw_of hcl) (rz_fty ci) (rz_cty_of hcl) (rz_cnm_of hcl) hown hK hP hD hS i (rz_ws_get hw) hcl y o1 (hts _ (rz_use (rz_wd_in o3) rfl)) (fun q h9 => by rw [o2] at h9; exact h9) o4 o5 hn hf (by rw [List.length_map]; exact hy) hdg
              (fun H1 locs1 h1 h2 h3 => kk ls H1 locs1 hL (by rw [rz_ws_set]; simpa [rz_e, List.map_set] using h1) (by rw [rz_ws_set]; simpa [rz_e, List.map_set] using h2) h3)
          · cases ok
        · cases hp
      · cases hp
    · cases hp
  · -- iaload
    replace hlen : len = 1 := of_decide_eq_true hlen
    subst hlen
    split at hp
    · split at hp
      · split at hp
        · rename_i _ j i r _ k n f hw hc
          cases hp
          obtain ⟨rfl, hin⟩ := hc
          exact va_iald hx hb hK hP i 0 (cA := cI) (n := n) (f := f) (rz_ws_get hw) rfl hin hdg (kk ls H locs hL hP hD hS)
        · cases hp
      · cases hp
    · cases hp
  · -- iastore
    replace hlen : len = 1 := of_decide_eq_true hlen
    subst hlen
    split at hp
    · split at hp
      · split at hp
        · rename_i _ v j i r _ k n f hw hc
          cases hp
          obtain ⟨rfl, hin⟩ := hc
          exact va_iast hx hb hK hP hD hS i 0 (cA := cI) (n := n) (f := f) (rz_ws_get hw) rfl hin hdg
            (fun H1 locs1 h1 h2 h3 => kk ls H1 locs1 hL (by rw [rz_ws_set]; exact h1) (by rw [rz_ws_set]; exact h2) h3)
        · cases hp
      · cases hp
    · cases hp
  · -- lastore
    replace hlen : len = 1 := of_decide_eq_true hlen
    subst hlen
    split at hp
    · split at hp
      · split at hp
        · rename_i _ v j i r _ k n f hw hc
          cases hp
          obtain ⟨rfl, hin⟩ := hc
          exact va_last hx hb hK hP hD hS i 1 (cA := cJ) (n := n) (f := f) (rz_ws_get hw) rfl hin hdg
            (fun H1 locs1 h1 h2 h3 => kk ls H1 locs1 hL (by rw [rz_ws_set]; exact h1) (by rw [rz_ws_set]; exact h2) h3)
        · cases hp
      · cases hp
    · cases hp
  · -- arraylength
    replace hlen : len = 1 := of_decide_eq_true hlen
    subst hlen
    split at hp
    · split at hp
      · split at hp
        · rename_i _ i r _ k n f hw hc
          cases hp
          subst hc
          exact va_alen hx hb hK hP i 0 (cA := cI) (x := (n, .inl f)) (rz_ws_get hw) (ty := .int) rfl rfl hdg (kk ls H locs hL hP hD hS)
        · cases hp
      · cases hp
    · cases hp
  · cases hp
end RZP
