/-! the constructors: what they make -/
def rz_isN (w : Cond) : Bool := match w with
  | .methodLinkNest _ _ _ _ => true
  | _ => false
/-- links between nest mates -/
def rz_Nx (U : State) : Prop := ∀ w ∈ lw_tbl, rz_isN w = true → va_Nw w U
theorem rz_Nx.same {u U : State} (h : u.vm = U.vm) (hN : rz_Nx u) : rz_Nx U := fun w hw hx => by
  have h1 := hN w hw hx
  cases w <;> first | (simp [rz_isN] at hx; done) | exact va_Nw.same rfl h h1
theorem rz_Nx.warm {s U : State} (hW : s.WarmedH U.vm) (hN : rz_Nx s) : rz_Nx U := fun w hw hx => by
  have h1 := hN w hw hx
  cases w <;> first | (simp [rz_isN] at hx; done) | exact va_Nw.warmM hW h1
theorem rz_gi {y : MethodName} {b : ByteArray} {n : Nat} {r : Option FieldType} (h : Cond.code y b n r ∈ rz_tw) : GoodIn rz_tw (Cond.code y b n r :: rz_tw) := fun w hw => by
  rcases List.mem_cons.mp hw with rfl | h1
  · exact ⟨h, Or.inl rfl⟩
  · exact ⟨h1, good_of_word (List.mem_filter.mp h1).2⟩
abbrev rz_tys (cI cJ : ClassId) : List (ClassId × FieldType) := [(cI, .int), (cJ, .long)]
section RZNEW
variable {p : Program} {l : Launch} {e : Env} {R : Room} {s : State} {m : MethodId} {args : Array Value} {below : List Frame} {meth : Method} {c : Code} {H : Heap} {locs : List Loc} {cells slots : Nat} {Q : State → Prop}
variable {cc : ByteArray} {pc : Nat} {ls : Array Slot} {rest : List Value} {D : va_G} {A : Nat → Prop} {ws : va_W} {H0 : Heap} {cI cJ : ClassId}
theorem rz_newi (hexec : p.tables.exec = Jvm.exec) (hb : c.code = cc) (harr : (Cond.arrayClass .int).before args s = true) (hK : va_K D rz_cl (rz_tys cI cJ) s) (hP : va_P D rz_cl ws H) (hD : va_D A ws) (hS : va_S A H0 H locs) (hA : ∀ q, H0.size ≤ q → A q)
    {n : Int32} {N' : Nat} (hn : ¬ n < 0) (hN : n.toNatClampNeg = N') (hbytes : N' * componentBytes .int ≤ 536870912) (hcells : cells + 1 ≤ R.cells) (hslots : slots + N' ≤ R.slots) (hdg : decode cc pc = .ok (.newarray .int, 2))
    (kk : ∀ (q : Nat) (H1 : Heap), va_P D rz_cl (ws ++ [(q, .inl (cI, N', .inl fun _ => 0))]) H1 → va_D A (ws ++ [(q, .inl (cI, N', .inl fun _ => 0))]) → va_S A H0 H1 locs →
      W p l e R s m args below meth c H1 locs (cells + 1) (slots + N') Q (F0 m (pc + 2) ls (.ref q :: rest))) : W p l e R s m args below meth c H locs cells slots Q (F0 m pc ls (.int n :: rest)) := by
  refine va_newa hexec hb (atype := .int) harr rfl hK hP hD hS hA (a0 := (N', .inl fun _ => 0)) (fun _ => rfl) hn hN hbytes hcells hslots hdg (fun q cA H1 hK1 hP1 hD1 hS1 => ?_)
  have e1 : s.vm.findClass ("[" ++ (FieldType.int).toString) = some cI := (hK1.2 0 (cI, .int) rfl).2
  have e2 : s.vm.findClass ("[" ++ (FieldType.int).toString) = some cA := (hK1.2 2 (cA, .int) rfl).2
  have e3 : cA = cI := Option.some.inj (e2.symm.trans e1)
  subst e3
  exact kk q H1 hP1 hD1 hS1
theorem rz_newl (hexec : p.tables.exec = Jvm.exec) (hb : c.code = cc) (harr : (Cond.arrayClass .long).before args s = true) (hK : va_K D rz_cl (rz_tys cI cJ) s) (hP : va_P D rz_cl ws H) (hD : va_D A ws) (hS : va_S A H0 H locs) (hA : ∀ q, H0.size ≤ q → A q)
    {n : Int32} {N' : Nat} (hn : ¬ n < 0) (hN : n.toNatClampNeg = N') (hbytes : N' * componentBytes .long ≤ 536870912) (hcells : cells + 1 ≤ R.cells) (hslots : slots + N' ≤ R.slots) (hdg : decode cc pc = .ok (.newarray .long, 2))
    (kk : ∀ (q : Nat) (H1 : Heap), va_P D rz_cl (ws ++ [(q, .inl (cJ, N', .inr (.inl fun _ => 0)))]) H1 → va_D A (ws ++ [(q, .inl (cJ, N', .inr (.inl fun _ => 0)))]) → va_S A H0 H1 locs →
      W p l e R s m args below meth c H1 locs (cells + 1) (slots + N') Q (F0 m (pc + 2) ls (.ref q :: rest))) : W p l e R s m args below meth c H locs cells slots Q (F0 m pc ls (.int n :: rest)) := by
  refine va_newa hexec hb (atype := .long) harr rfl hK hP hD hS hA (a0 := (N', .inr (.inl fun _ => 0))) (fun _ => rfl) hn hN hbytes hcells hslots hdg (fun q cA H1 hK1 hP1 hD1 hS1 => ?_)
  have e1 : s.vm.findClass ("[" ++ (FieldType.long).toString) = some cJ := (hK1.2 1 (cJ, .long) rfl).2
  have e2 : s.vm.findClass ("[" ++ (FieldType.long).toString) = some cA := (hK1.2 2 (cA, .long) rfl).2
  have e3 : cA = cJ := Option.some.inj (e2.symm.trans e1)
  subst e3
  exact kk q H1 hP1 hD1 hS1
end RZNEW
theorem rk_ai : Cond.arrayClass .int ∈ rz_tw := rz_use (List.mem_of_getElem? (i := 69) (by decide +kernel)) rfl
theorem rk_aj : Cond.arrayClass .long ∈ rz_tw := rz_use (List.mem_of_getElem? (i := 812) (by decide +kernel)) rfl
def rz_prc (D : va_G) (cI cJ : ClassId) (h0 sz : Nat) (w0 : va_W) : Array Value → State → Prop := va_Pc [.ref h0] (fun U => U.heap.size = sz ∧ va_P D rz_cl w0 U.heap ∧ va_K D rz_cl (rz_tys cI cJ) U ∧ va_D (fun _ => True) w0 ∧ rz_Nx U)
theorem rz_pre {s : State} {H : Heap} {D : va_G} {cI cJ : ClassId} {h0 : Nat} {w0 : va_W} {A : Nat → Prop} (hP : va_P D rz_cl w0 H) (hK : va_K D rz_cl (rz_tys cI cJ) s) (hD : va_D A w0) (hN : rz_Nx s) : PreS s H (rz_prc D cI cJ h0 H.size w0) [.ref h0] :=
  ⟨fun a U g mk q => by
    obtain ⟨q0, q1, qP, qK, qD, qN⟩ := q
    exact ⟨q0, q1, qP, va_K.moved (u := U) (U := U.calling g mk a) (Vm.Alike.refl U.vm) qK, qD, rz_Nx.same (u := U) rfl qN⟩,
  fun U hU hW => ⟨rfl, by rw [hU], by rw [hU]; exact hP, va_K.moved hW.alike hK, hD.weaken (fun _ _ _ _ => trivial), hN.warm hW⟩⟩
theorem rz_df0 : ∀ j, j < 5 → defaultValue (rz_fty 0 j) = vp_V [.null, .null, .null, .null, .null] j := by decide +kernel
theorem rz_df1 : ∀ j, j < 2 → defaultValue (rz_fty 1 j) = vp_V [.null, .int 0] j := by decide +kernel
theorem rz_df2 : ∀ j, j < 6 → defaultValue (rz_fty 2 j) = vp_V [.null, .null, .int 0, .int 0, .int 0, .int 0] j := by decide +kernel
theorem rz_df3 : ∀ j, j < 1 → defaultValue (rz_fty 3 j) = vp_V [.null] j := by decide +kernel
theorem rz_df4 : ∀ j, j < 3 → defaultValue (rz_fty 4 j) = vp_V [.null, .null, .int 0] j := by decide +kernel
theorem rz_df5 : ∀ j, j < 2 → defaultValue (rz_fty 5 j) = vp_V [.null, .int 0] j := by decide +kernel
theorem rz_df6 : ∀ j, j < 7 → defaultValue (rz_fty 6 j) = vp_V [.null, .null, .null, .null, .int 0, .int 0, .int 0] j := by decide +kernel
theorem rz_df7 : ∀ j, j < 16 → defaultValue (rz_fty 7 j) = vp_V [.int 0, .int 0, .null, .null, .null, .null, .null, .null, .int 0, .int 0, .null, .null, .null, .int 0, .int 0, .int 0] j := by decide +kernel
theorem rk_w115 : (Jvm.Cond.code ⟨"RowImprover$Row", "<init>", "()V"⟩ prog_9_method_1_code (1 : Nat) (Option.none : Option Jvm.ClassFile.FieldType)) ∈ rz_tw := rz_use (List.mem_of_getElem? (i := 115) (by decide +kernel)) rfl
theorem rk_w116 : (Jvm.Cond.methodLink "RowImprover$Row" (3 : Nat) Lib.objectInit) ∈ rz_tw := rz_use (List.mem_of_getElem? (i := 116) (by decide +kernel)) rfl
theorem rk_w54 : (Jvm.Cond.instanceMethod Lib.objectInit) ∈ rz_tw := rz_use (List.mem_of_getElem? (i := 54) (by decide +kernel)) rfl
theorem rk_w55 : (Jvm.Cond.code Lib.objectInit ⟨#[0xb1]⟩ (1 : Nat) (Option.none : Option Jvm.ClassFile.FieldType)) ∈ rz_tw := rz_use (List.mem_of_getElem? (i := 55) (by decide +kernel)) rfl
theorem rk_w117 : (Jvm.Cond.fieldLink "RowImprover$Row" (9 : Nat) "RowImprover$Row" "codes" "[I") ∈ rz_tw := rz_use (List.mem_of_getElem? (i := 117) (by decide +kernel)) rfl
/-- a new RowImprover$Row -/
def rk_y5 : MethodName := ⟨"RowImprover$Row", "<init>", "()V"⟩
theorem rk_d5_0 : decode prog_9_method_1_code 0 = .ok (.aload_n 0, 1) := by decide +kernel
theorem rk_d5_1 : decode prog_9_method_1_code 1 = .ok (.invokespecial 3, 3) := by decide +kernel
theorem rk_d5_4 : decode prog_9_method_1_code 4 = .ok (.aload_n 0, 1) := by decide +kernel
theorem rk_d5_5 : decode prog_9_method_1_code 5 = .ok (.iconst 3, 1) := by decide +kernel
theorem rk_d5_6 : decode prog_9_method_1_code 6 = .ok (.newarray .int, 2) := by decide +kernel
theorem rk_d5_8 : decode prog_9_method_1_code 8 = .ok (.putfield 9, 3) := by decide +kernel
theorem rk_d5_11 : decode prog_9_method_1_code 11 = .ok (.return_, 1) := by decide +kernel
set_option maxHeartbeats 4000000 in
set_option maxRecDepth 100000 in
theorem k_5 (l : Launch) (D : va_G) (cI cJ : ClassId) (h0 sz : Nat) : Met l rk_y5 (Cond.code rk_y5 prog_9_method_1_code 1 none :: rz_tw) ({ frames := 1, cells := 1, slots := 3, locals := 12 }) (rz_prc D cI cJ h0 sz [(h0, .inr (5, [.null, .int 0]))]) (va_Qv (fun _ : Unit => True) (fun _ t => ∃ q1 : Nat, va_P D rz_cl [(h0, .inr (5, [.ref q1, .int 0])), (q1, .inl (cI, 3, .inl fun _ => 0))] t.heap ∧ va_D (va_A [(h0, .inr (5, [.null, .int 0]))] sz) [(h0, .inr (5, [.ref q1, .int 0])), (q1, .inl (cI, 3, .inl fun _ => 0))]) (va_A [(h0, .inr (5, [.null, .int 0]))] sz)) 1 3 (va_A [(h0, .inr (5, [.null, .int 0]))] sz) := by
  refine Met.ofW (cc := prog_9_method_1_code) (maxL := 1) (ret := none) (by decide) rfl ?_
  intro p e s m args below meth c s₁ B hml hv
  obtain ⟨rfl, hsz, hP, hK, hD0, hN⟩ := hv
  have hx := B.exec
  have hb := B.bytes
  have hr := B.returns
  have hts : ∀ w ∈ rz_tw, w.before ([.ref h0] : List Value).toArray s = true := fun w hw => atoms_spec (ws := Cond.code rk_y5 prog_9_method_1_code 1 none :: rz_tw) B.pre w (List.mem_cons_of_mem _ hw)
  have hown : s.vm.findClass "RowImprover$Row" = some m.cls := findClass_of_methodNamed B.named
  have hlocks := B.notSynchronized
  have hin : meth.name = "<init>" := (name_of_methodNamed B.named B.method).1
  subst hsz
  have hD := hD0.self (sz := s.heap.size)
  generalize hAe : va_A [(h0, .inr (5, [.null, .int 0]))] s.heap.size = A at hD ⊢
  have hA : ∀ q : Nat, s.heap.size ≤ q → A q := fun q h => by rw [← hAe]; exact Or.inr h
  have hS : va_S A s.heap s.heap [] := va_S.rf
  have hP : va_P D rz_cl [(h0, .inr (5, [.null, .int 0]))] s.heap := hP
  have hl := lv_entry ([.ref h0]) (n := 1) (Nat.le_of_ble_eq_true rfl)
  rw [lg_entry_eq]
  generalize (lg_sl ([.ref h0]) ++ List.replicate (1 - (lg_sl ([.ref h0])).length) Slot.unset).toArray = ls at hl ⊢
  have hl : lv_has ls 1 [(0, .ref h0)] := hl
  refine lv_aload_n hx hb rk_d5_0 rfl (lv_at hl 0 rfl) ?_
  refine W.objInit hx hb hown (hts _ rk_w116) (hts _ rk_w54) (hts _ rk_w55) rfl (by rw [hml]; exact hl.1) rfl rk_d5_1 (Nat.le_of_ble_eq_true rfl) (Nat.le_of_ble_eq_true rfl) ?_
  refine W.eq (g2 := F0 m 4 ls []) rfl ?_
  refine lv_aload_n hx hb rk_d5_4 rfl (lv_at hl 0 rfl) ?_
  refine lv_iconst (v := 3) hx hb rk_d5_5 (by decide) ?_
  refine rz_newi hx hb (hts _ rk_ai) hK hP hD hS hA (N' := 3) (by decide) (by decide) (by decide) (show 0 + 1 ≤ 1 by decide) (show 0 + 3 ≤ 3 by decide) rk_d5_6 (fun q1 H hP hD hS => ?_)
  have hP : va_P D rz_cl [(h0, .inr (5, [.null, .int 0])), (q1, .inl (cI, 3, .inl fun _ => 0))] H := hP
  have hD : va_D A [(h0, .inr (5, [.null, .int 0])), (q1, .inl (cI, 3, .inl fun _ => 0))] := hD
  refine W.widen (k := 1) (n := 3) (by omega) (by omega) ?_
  refine va_putF (D := D) (ci := 5) (v := .ref q1) (ty := .array .int) (C := "RowImprover$Row") (T := rz_F5) (N := 2) hx hb hts (rz_clw_of (ci := 5) rfl) (rz_fty 5) (rz_cty_of (ci := 5) rfl) (rz_cnm_of (ci := 5) rfl) hown hK hP hD hS 0 rfl rfl 0 (by decide) (hts _ rk_w117) (fun _ h9 => h9) rfl hin rfl (by decide +kernel) rfl rfl (Nat.le_of_ble_eq_true rfl) rk_d5_8 (fun H locs hP hD hS => ?_)
  have hP : va_P D rz_cl [(h0, .inr (5, [.ref q1, .int 0])), (q1, .inl (cI, 3, .inl fun _ => 0))] H := hP
  have hD : va_D A [(h0, .inr (5, [.ref q1, .int 0])), (q1, .inl (cI, 3, .inl fun _ => 0))] := hD
  exact W.vret hx hb hr (fun t ht hW => ⟨⟨(), rfl, trivial, q1, by rw [ht]; exact hP, hD⟩, hS.F ht⟩) hS.2.2 rk_d5_11
theorem rk_w99 : (Jvm.Cond.code ⟨"RowImprover$Liveness", "<init>", "()V"⟩ prog_4_method_1_code (1 : Nat) (Option.none : Option Jvm.ClassFile.FieldType)) ∈ rz_tw := rz_use (List.mem_of_getElem? (i := 99) (by decide +kernel)) rfl
theorem rk_w100 : (Jvm.Cond.methodLink "RowImprover$Liveness" (3 : Nat) Lib.objectInit) ∈ rz_tw := rz_use (List.mem_of_getElem? (i := 100) (by decide +kernel)) rfl
theorem rk_w101 : (Jvm.Cond.fieldLink "RowImprover$Liveness" (9 : Nat) "RowImprover$Liveness" "found" "[I") ∈ rz_tw := rz_use (List.mem_of_getElem? (i := 101) (by decide +kernel)) rfl
/-- a new RowImprover$Liveness -/
def rk_y3 : MethodName := ⟨"RowImprover$Liveness", "<init>", "()V"⟩
theorem rk_d3_0 : decode prog_4_method_1_code 0 = .ok (.aload_n 0, 1) := by decide +kernel
theorem rk_d3_1 : decode prog_4_method_1_code 1 = .ok (.invokespecial 3, 3) := by decide +kernel
theorem rk_d3_4 : decode prog_4_method_1_code 4 = .ok (.aload_n 0, 1) := by decide +kernel
theorem rk_d3_5 : decode prog_4_method_1_code 5 = .ok (.bipush 25, 2) := by decide +kernel
theorem rk_d3_7 : decode prog_4_method_1_code 7 = .ok (.newarray .int, 2) := by decide +kernel
theorem rk_d3_9 : decode prog_4_method_1_code 9 = .ok (.putfield 9, 3) := by decide +kernel
theorem rk_d3_12 : decode prog_4_method_1_code 12 = .ok (.return_, 1) := by decide +kernel
set_option maxHeartbeats 4000000 in
set_option maxRecDepth 100000 in
theorem k_3 (l : Launch) (D : va_G) (cI cJ : ClassId) (h0 sz : Nat) : Met l rk_y3 (Cond.code rk_y3 prog_4_method_1_code 1 none :: rz_tw) ({ frames := 1, cells := 1, slots := 25, locals := 12 }) (rz_prc D cI cJ h0 sz [(h0, .inr (3, [.null]))]) (va_Qv (fun _ : Unit => True) (fun _ t => ∃ q1 : Nat, va_P D rz_cl [(h0, .inr (3, [.ref q1])), (q1, .inl (cI, 25, .inl fun _ => 0))] t.heap ∧ va_D (va_A [(h0, .inr (3, [.null]))] sz) [(h0, .inr (3, [.ref q1])), (q1, .inl (cI, 25, .inl fun _ => 0))]) (va_A [(h0, .inr (3, [.null]))] sz)) 1 25 (va_A [(h0, .inr (3, [.null]))] sz) := by
  refine Met.ofW (cc := prog_4_method_1_code) (maxL := 1) (ret := none) (by decide) rfl ?_
  intro p e s m args below meth c s₁ B hml hv
  obtain ⟨rfl, hsz, hP, hK, hD0, hN⟩ := hv
  have hx := B.exec
  have hb := B.bytes
  have hr := B.returns
  have hts : ∀ w ∈ rz_tw, w.before ([.ref h0] : List Value).toArray s = true := fun w hw => atoms_spec (ws := Cond.code rk_y3 prog_4_method_1_code 1 none :: rz_tw) B.pre w (List.mem_cons_of_mem _ hw)
  have hown : s.vm.findClass "RowImprover$Liveness" = some m.cls := findClass_of_methodNamed B.named
  have hlocks := B.notSynchronized
  have hin : meth.name = "<init>" := (name_of_methodNamed B.named B.method).1
  subst hsz
  have hD := hD0.self (sz := s.heap.size)
  generalize hAe : va_A [(h0, .inr (3, [.null]))] s.heap.size = A at hD ⊢
  have hA : ∀ q : Nat, s.heap.size ≤ q → A q := fun q h => by rw [← hAe]; exact Or.inr h
  have hS : va_S A s.heap s.heap [] := va_S.rf
  have hP : va_P D rz_cl [(h0, .inr (3, [.null]))] s.heap := hP
  have hl := lv_entry ([.ref h0]) (n := 1) (Nat.le_of_ble_eq_true rfl)
  rw [lg_entry_eq]
  generalize (lg_sl ([.ref h0]) ++ List.replicate (1 - (lg_sl ([.ref h0])).length) Slot.unset).toArray = ls at hl ⊢
  have hl : lv_has ls 1 [(0, .ref h0)] := hl
  refine lv_aload_n hx hb rk_d3_0 rfl (lv_at hl 0 rfl) ?_
  refine W.objInit hx hb hown (hts _ rk_w100) (hts _ rk_w54) (hts _ rk_w55) rfl (by rw [hml]; exact hl.1) rfl rk_d3_1 (Nat.le_of_ble_eq_true rfl) (Nat.le_of_ble_eq_true rfl) ?_
  refine W.eq (g2 := F0 m 4 ls []) rfl ?_
  refine lv_aload_n hx hb rk_d3_4 rfl (lv_at hl 0 rfl) ?_
  refine lv_bipush (v := 25) hx hb rk_d3_5 (by decide) ?_
  refine rz_newi hx hb (hts _ rk_ai) hK hP hD hS hA (N' := 25) (by decide) (by decide) (by decide) (show 0 + 1 ≤ 1 by decide) (show 0 + 25 ≤ 25 by decide) rk_d3_7 (fun q1 H hP hD hS => ?_)
  have hP : va_P D rz_cl [(h0, .inr (3, [.null])), (q1, .inl (cI, 25, .inl fun _ => 0))] H := hP
  have hD : va_D A [(h0, .inr (3, [.null])), (q1, .inl (cI, 25, .inl fun _ => 0))] := hD
  refine W.widen (k := 1) (n := 25) (by omega) (by omega) ?_
  refine va_putF (D := D) (ci := 3) (v := .ref q1) (ty := .array .int) (C := "RowImprover$Liveness") (T := rz_F3) (N := 1) hx hb hts (rz_clw_of (ci := 3) rfl) (rz_fty 3) (rz_cty_of (ci := 3) rfl) (rz_cnm_of (ci := 3) rfl) hown hK hP hD hS 0 rfl rfl 0 (by decide) (hts _ rk_w101) (fun _ h9 => h9) rfl hin rfl (by decide +kernel) rfl rfl (Nat.le_of_ble_eq_true rfl) rk_d3_9 (fun H locs hP hD hS => ?_)
  have hP : va_P D rz_cl [(h0, .inr (3, [.ref q1])), (q1, .inl (cI, 25, .inl fun _ => 0))] H := hP
  have hD : va_D A [(h0, .inr (3, [.ref q1])), (q1, .inl (cI, 25, .inl fun _ => 0))] := hD
  exact W.vret hx hb hr (fun t ht hW => ⟨⟨(), rfl, trivial, q1, by rw [ht]; exact hP, hD⟩, hS.F ht⟩) hS.2.2 rk_d3_12
theorem rk_w60 : (Jvm.Cond.code ⟨"RowImprover$Program", "<init>", "()V"⟩ prog_6_method_1_code (1 : Nat) (Option.none : Option Jvm.ClassFile.FieldType)) ∈ rz_tw := rz_use (List.mem_of_getElem? (i := 60) (by decide +kernel)) rfl
theorem rk_w61 : (Jvm.Cond.methodLink "RowImprover$Program" (3 : Nat) Lib.objectInit) ∈ rz_tw := rz_use (List.mem_of_getElem? (i := 61) (by decide +kernel)) rfl
theorem rk_w62 : (Jvm.Cond.fieldLink "RowImprover$Program" (9 : Nat) "RowImprover$Program" "codes" "[I") ∈ rz_tw := rz_use (List.mem_of_getElem? (i := 62) (by decide +kernel)) rfl
/-- a new RowImprover$Program -/
def rk_y1 : MethodName := ⟨"RowImprover$Program", "<init>", "()V"⟩
theorem rk_d1_0 : decode prog_6_method_1_code 0 = .ok (.aload_n 0, 1) := by decide +kernel
theorem rk_d1_1 : decode prog_6_method_1_code 1 = .ok (.invokespecial 3, 3) := by decide +kernel
theorem rk_d1_4 : decode prog_6_method_1_code 4 = .ok (.aload_n 0, 1) := by decide +kernel
theorem rk_d1_5 : decode prog_6_method_1_code 5 = .ok (.bipush 24, 2) := by decide +kernel
theorem rk_d1_7 : decode prog_6_method_1_code 7 = .ok (.newarray .int, 2) := by decide +kernel
theorem rk_d1_9 : decode prog_6_method_1_code 9 = .ok (.putfield 9, 3) := by decide +kernel
theorem rk_d1_12 : decode prog_6_method_1_code 12 = .ok (.return_, 1) := by decide +kernel
set_option maxHeartbeats 4000000 in
set_option maxRecDepth 100000 in
theorem k_1 (l : Launch) (D : va_G) (cI cJ : ClassId) (h0 sz : Nat) : Met l rk_y1 (Cond.code rk_y1 prog_6_method_1_code 1 none :: rz_tw) ({ frames := 1, cells := 1, slots := 24, locals := 12 }) (rz_prc D cI cJ h0 sz [(h0, .inr (1, [.null, .int 0]))]) (va_Qv (fun _ : Unit => True) (fun _ t => ∃ q1 : Nat, va_P D rz_cl [(h0, .inr (1, [.ref q1, .int 0])), (q1, .inl (cI, 24, .inl fun _ => 0))] t.heap ∧ va_D (va_A [(h0, .inr (1, [.null, .int 0]))] sz) [(h0, .inr (1, [.ref q1, .int 0])), (q1, .inl (cI, 24, .inl fun _ => 0))]) (va_A [(h0, .inr (1, [.null, .int 0]))] sz)) 1 24 (va_A [(h0, .inr (1, [.null, .int 0]))] sz) := by
  refine Met.ofW (cc := prog_6_method_1_code) (maxL := 1) (ret := none) (by decide) rfl ?_
  intro p e s m args below meth c s₁ B hml hv
  obtain ⟨rfl, hsz, hP, hK, hD0, hN⟩ := hv
  have hx := B.exec
  have hb := B.bytes
  have hr := B.returns
  have hts : ∀ w ∈ rz_tw, w.before ([.ref h0] : List Value).toArray s = true := fun w hw => atoms_spec (ws := Cond.code rk_y1 prog_6_method_1_code 1 none :: rz_tw) B.pre w (List.mem_cons_of_mem _ hw)
  have hown : s.vm.findClass "RowImprover$Program" = some m.cls := findClass_of_methodNamed B.named
  have hlocks := B.notSynchronized
  have hin : meth.name = "<init>" := (name_of_methodNamed B.named B.method).1
  subst hsz
  have hD := hD0.self (sz := s.heap.size)
  generalize hAe : va_A [(h0, .inr (1, [.null, .int 0]))] s.heap.size = A at hD ⊢
  have hA : ∀ q : Nat, s.heap.size ≤ q → A q := fun q h => by rw [← hAe]; exact Or.inr h
  have hS : va_S A s.heap s.heap [] := va_S.rf
  have hP : va_P D rz_cl [(h0, .inr (1, [.null, .int 0]))] s.heap := hP
  have hl := lv_entry ([.ref h0]) (n := 1) (Nat.le_of_ble_eq_true rfl)
  rw [lg_entry_eq]
  generalize (lg_sl ([.ref h0]) ++ List.replicate (1 - (lg_sl ([.ref h0])).length) Slot.unset).toArray = ls at hl ⊢
  have hl : lv_has ls 1 [(0, .ref h0)] := hl
  refine lv_aload_n hx hb rk_d1_0 rfl (lv_at hl 0 rfl) ?_
  refine W.objInit hx hb hown (hts _ rk_w61) (hts _ rk_w54) (hts _ rk_w55) rfl (by rw [hml]; exact hl.1) rfl rk_d1_1 (Nat.le_of_ble_eq_true rfl) (Nat.le_of_ble_eq_true rfl) ?_
  refine W.eq (g2 := F0 m 4 ls []) rfl ?_
  refine lv_aload_n hx hb rk_d1_4 rfl (lv_at hl 0 rfl) ?_
  refine lv_bipush (v := 24) hx hb rk_d1_5 (by decide) ?_
  refine rz_newi hx hb (hts _ rk_ai) hK hP hD hS hA (N' := 24) (by decide) (by decide) (by decide) (show 0 + 1 ≤ 1 by decide) (show 0 + 24 ≤ 24 by decide) rk_d1_7 (fun q1 H hP hD hS => ?_)
  have hP : va_P D rz_cl [(h0, .inr (1, [.null, .int 0])), (q1, .inl (cI, 24, .inl fun _ => 0))] H := hP
  have hD : va_D A [(h0, .inr (1, [.null, .int 0])), (q1, .inl (cI, 24, .inl fun _ => 0))] := hD
  refine W.widen (k := 1) (n := 24) (by omega) (by omega) ?_
  refine va_putF (D := D) (ci := 1) (v := .ref q1) (ty := .array .int) (C := "RowImprover$Program") (T := rz_F1) (N := 2) hx hb hts (rz_clw_of (ci := 1) rfl) (rz_fty 1) (rz_cty_of (ci := 1) rfl) (rz_cnm_of (ci := 1) rfl) hown hK hP hD hS 0 rfl rfl 0 (by decide) (hts _ rk_w62) (fun _ h9 => h9) rfl hin rfl (by decide +kernel) rfl rfl (Nat.le_of_ble_eq_true rfl) rk_d1_9 (fun H locs hP hD hS => ?_)
  have hP : va_P D rz_cl [(h0, .inr (1, [.ref q1, .int 0])), (q1, .inl (cI, 24, .inl fun _ => 0))] H := hP
  have hD : va_D A [(h0, .inr (1, [.ref q1, .int 0])), (q1, .inl (cI, 24, .inl fun _ => 0))] := hD
  exact W.vret hx hb hr (fun t ht hW => ⟨⟨(), rfl, trivial, q1, by rw [ht]; exact hP, hD⟩, hS.F ht⟩) hS.2.2 rk_d1_12
theorem rk_w74 : (Jvm.Cond.code ⟨"RowImprover$Machine", "<init>", "()V"⟩ prog_5_method_1_code (1 : Nat) (Option.none : Option Jvm.ClassFile.FieldType)) ∈ rz_tw := rz_use (List.mem_of_getElem? (i := 74) (by decide +kernel)) rfl
theorem rk_w75 : (Jvm.Cond.methodLink "RowImprover$Machine" (3 : Nat) Lib.objectInit) ∈ rz_tw := rz_use (List.mem_of_getElem? (i := 75) (by decide +kernel)) rfl
theorem rk_w76 : (Jvm.Cond.fieldLink "RowImprover$Machine" (9 : Nat) "RowImprover$Machine" "startCells" "[I") ∈ rz_tw := rz_use (List.mem_of_getElem? (i := 76) (by decide +kernel)) rfl
theorem rk_w77 : (Jvm.Cond.fieldLink "RowImprover$Machine" (15 : Nat) "RowImprover$Machine" "cells" "[I") ∈ rz_tw := rz_use (List.mem_of_getElem? (i := 77) (by decide +kernel)) rfl
/-- a new RowImprover$Machine -/
def rk_y2 : MethodName := ⟨"RowImprover$Machine", "<init>", "()V"⟩
theorem rk_d2_0 : decode prog_5_method_1_code 0 = .ok (.aload_n 0, 1) := by decide +kernel
theorem rk_d2_1 : decode prog_5_method_1_code 1 = .ok (.invokespecial 3, 3) := by decide +kernel
theorem rk_d2_4 : decode prog_5_method_1_code 4 = .ok (.aload_n 0, 1) := by decide +kernel
theorem rk_d2_5 : decode prog_5_method_1_code 5 = .ok (.bipush 8, 2) := by decide +kernel
theorem rk_d2_7 : decode prog_5_method_1_code 7 = .ok (.newarray .int, 2) := by decide +kernel
theorem rk_d2_9 : decode prog_5_method_1_code 9 = .ok (.putfield 9, 3) := by decide +kernel
theorem rk_d2_12 : decode prog_5_method_1_code 12 = .ok (.aload_n 0, 1) := by decide +kernel
theorem rk_d2_13 : decode prog_5_method_1_code 13 = .ok (.bipush 8, 2) := by decide +kernel
theorem rk_d2_15 : decode prog_5_method_1_code 15 = .ok (.newarray .int, 2) := by decide +kernel
theorem rk_d2_17 : decode prog_5_method_1_code 17 = .ok (.putfield 15, 3) := by decide +kernel
theorem rk_d2_20 : decode prog_5_method_1_code 20 = .ok (.return_, 1) := by decide +kernel
set_option maxHeartbeats 4000000 in
set_option maxRecDepth 100000 in
theorem k_2 (l : Launch) (D : va_G) (cI cJ : ClassId) (h0 sz : Nat) : Met l rk_y2 (Cond.code rk_y2 prog_5_method_1_code 1 none :: rz_tw) ({ frames := 1, cells := 2, slots := 16, locals := 12 }) (rz_prc D cI cJ h0 sz [(h0, .inr (2, [.null, .null, .int 0, .int 0, .int 0, .int 0]))]) (va_Qv (fun _ : Unit => True) (fun _ t => ∃ q1 q2 : Nat, va_P D rz_cl [(h0, .inr (2, [.ref q1, .ref q2, .int 0, .int 0, .int 0, .int 0])), (q1, .inl (cI, 8, .inl fun _ => 0)), (q2, .inl (cI, 8, .inl fun _ => 0))] t.heap ∧ va_D (va_A [(h0, .inr (2, [.null, .null, .int 0, .int 0, .int 0, .int 0]))] sz) [(h0, .inr (2, [.ref q1, .ref q2, .int 0, .int 0, .int 0, .int 0])), (q1, .inl (cI, 8, .inl fun _ => 0)), (q2, .inl (cI, 8, .inl fun _ => 0))]) (va_A [(h0, .inr (2, [.null, .null, .int 0, .int 0, .int 0, .int 0]))] sz)) 2 16 (va_A [(h0, .inr (2, [.null, .null, .int 0, .int 0, .int 0, .int 0]))] sz) := by
  refine Met.ofW (cc := prog_5_method_1_code) (maxL := 1) (ret := none) (by decide) rfl ?_
  intro p e s m args below meth c s₁ B hml hv
  obtain ⟨rfl, hsz, hP, hK, hD0, hN⟩ := hv
  have hx := B.exec
  have hb := B.bytes
  have hr := B.returns
  have hts : ∀ w ∈ rz_tw, w.before ([.ref h0] : List Value).toArray s = true := fun w hw => atoms_spec (ws := Cond.code rk_y2 prog_5_method_1_code 1 none :: rz_tw) B.pre w (List.mem_cons_of_mem _ hw)
  have hown : s.vm.findClass "RowImprover$Machine" = some m.cls := findClass_of_methodNamed B.named
  have hlocks := B.notSynchronized
  have hin : meth.name = "<init>" := (name_of_methodNamed B.named B.method).1
  subst hsz
  have hD := hD0.self (sz := s.heap.size)
  generalize hAe : va_A [(h0, .inr (2, [.null, .null, .int 0, .int 0, .int 0, .int 0]))] s.heap.size = A at hD ⊢
  have hA : ∀ q : Nat, s.heap.size ≤ q → A q := fun q h => by rw [← hAe]; exact Or.inr h
  have hS : va_S A s.heap s.heap [] := va_S.rf
  have hP : va_P D rz_cl [(h0, .inr (2, [.null, .null, .int 0, .int 0, .int 0, .int 0]))] s.heap := hP
  have hl := lv_entry ([.ref h0]) (n := 1) (Nat.le_of_ble_eq_true rfl)
  rw [lg_entry_eq]
  generalize (lg_sl ([.ref h0]) ++ List.replicate (1 - (lg_sl ([.ref h0])).length) Slot.unset).toArray = ls at hl ⊢
  have hl : lv_has ls 1 [(0, .ref h0)] := hl
  refine lv_aload_n hx hb rk_d2_0 rfl (lv_at hl 0 rfl) ?_
  refine W.objInit hx hb hown (hts _ rk_w75) (hts _ rk_w54) (hts _ rk_w55) rfl (by rw [hml]; exact hl.1) rfl rk_d2_1 (Nat.le_of_ble_eq_true rfl) (Nat.le_of_ble_eq_true rfl) ?_
  refine W.eq (g2 := F0 m 4 ls []) rfl ?_
  refine lv_aload_n hx hb rk_d2_4 rfl (lv_at hl 0 rfl) ?_
  refine lv_bipush (v := 8) hx hb rk_d2_5 (by decide) ?_
  refine rz_newi hx hb (hts _ rk_ai) hK hP hD hS hA (N' := 8) (by decide) (by decide) (by decide) (show 0 + 1 ≤ 2 by decide) (show 0 + 8 ≤ 16 by decide) rk_d2_7 (fun q1 H hP hD hS => ?_)
  have hP : va_P D rz_cl [(h0, .inr (2, [.null, .null, .int 0, .int 0, .int 0, .int 0])), (q1, .inl (cI, 8, .inl fun _ => 0))] H := hP
  have hD : va_D A [(h0, .inr (2, [.null, .null, .int 0, .int 0, .int 0, .int 0])), (q1, .inl (cI, 8, .inl fun _ => 0))] := hD
  refine W.widen (k := 1) (n := 8) (by omega) (by omega) ?_
  refine va_putF (D := D) (ci := 2) (v := .ref q1) (ty := .array .int) (C := "RowImprover$Machine") (T := rz_F2) (N := 6) hx hb hts (rz_clw_of (ci := 2) rfl) (rz_fty 2) (rz_cty_of (ci := 2) rfl) (rz_cnm_of (ci := 2) rfl) hown hK hP hD hS 0 rfl rfl 0 (by decide) (hts _ rk_w76) (fun _ h9 => h9) rfl hin rfl (by decide +kernel) rfl rfl (Nat.le_of_ble_eq_true rfl) rk_d2_9 (fun H locs hP hD hS => ?_)
  have hP : va_P D rz_cl [(h0, .inr (2, [.ref q1, .null, .int 0, .int 0, .int 0, .int 0])), (q1, .inl (cI, 8, .inl fun _ => 0))] H := hP
  have hD : va_D A [(h0, .inr (2, [.ref q1, .null, .int 0, .int 0, .int 0, .int 0])), (q1, .inl (cI, 8, .inl fun _ => 0))] := hD
  refine lv_aload_n hx hb rk_d2_12 rfl (lv_at hl 0 rfl) ?_
  refine lv_bipush (v := 8) hx hb rk_d2_13 (by decide) ?_
  refine rz_newi hx hb (hts _ rk_ai) hK hP hD hS hA (N' := 8) (by decide) (by decide) (by decide) (show 1 + 1 ≤ 2 by decide) (show 8 + 8 ≤ 16 by decide) rk_d2_15 (fun q2 H hP hD hS => ?_)
  have hP : va_P D rz_cl [(h0, .inr (2, [.ref q1, .null, .int 0, .int 0, .int 0, .int 0])), (q1, .inl (cI, 8, .inl fun _ => 0)), (q2, .inl (cI, 8, .inl fun _ => 0))] H := hP
  have hD : va_D A [(h0, .inr (2, [.ref q1, .null, .int 0, .int 0, .int 0, .int 0])), (q1, .inl (cI, 8, .inl fun _ => 0)), (q2, .inl (cI, 8, .inl fun _ => 0))] := hD
  refine W.widen (k := 2) (n := 16) (by omega) (by omega) ?_
  refine va_putF (D := D) (ci := 2) (v := .ref q2) (ty := .array .int) (C := "RowImprover$Machine") (T := rz_F2) (N := 6) hx hb hts (rz_clw_of (ci := 2) rfl) (rz_fty 2) (rz_cty_of (ci := 2) rfl) (rz_cnm_of (ci := 2) rfl) hown hK hP hD hS 0 rfl rfl 1 (by decide) (hts _ rk_w77) (fun _ h9 => h9) rfl hin rfl (by decide +kernel) rfl rfl (Nat.le_of_ble_eq_true rfl) rk_d2_17 (fun H locs hP hD hS => ?_)
  have hP : va_P D rz_cl [(h0, .inr (2, [.ref q1, .ref q2, .int 0, .int 0, .int 0, .int 0])), (q1, .inl (cI, 8, .inl fun _ => 0)), (q2, .inl (cI, 8, .inl fun _ => 0))] H := hP
  have hD : va_D A [(h0, .inr (2, [.ref q1, .ref q2, .int 0, .int 0, .int 0, .int 0])), (q1, .inl (cI, 8, .inl fun _ => 0)), (q2, .inl (cI, 8, .inl fun _ => 0))] := hD
  exact W.vret hx hb hr (fun t ht hW => ⟨⟨(), rfl, trivial, q1, q2, by rw [ht]; exact hP, hD⟩, hS.F ht⟩) hS.2.2 rk_d2_20
theorem rk_w629 : (Jvm.Cond.code ⟨"RowImproverModel", "<init>", "()V"⟩ prog_11_method_1_code (1 : Nat) (Option.none : Option Jvm.ClassFile.FieldType)) ∈ rz_tw := rz_use (List.mem_of_getElem? (i := 629) (by decide +kernel)) rfl
theorem rk_w630 : (Jvm.Cond.methodLink "RowImproverModel" (1 : Nat) Lib.objectInit) ∈ rz_tw := rz_use (List.mem_of_getElem? (i := 630) (by decide +kernel)) rfl
theorem rk_w633 : (Jvm.Cond.fieldLink "RowImproverModel" (7 : Nat) "RowImproverModel" "operation" "[I") ∈ rz_tw := rz_use (List.mem_of_getElem? (i := 633) (by decide +kernel)) rfl
theorem rk_w634 : (Jvm.Cond.fieldLink "RowImproverModel" (13 : Nat) "RowImproverModel" "to" "[I") ∈ rz_tw := rz_use (List.mem_of_getElem? (i := 634) (by decide +kernel)) rfl
theorem rk_w635 : (Jvm.Cond.fieldLink "RowImproverModel" (16 : Nat) "RowImproverModel" "from" "[I") ∈ rz_tw := rz_use (List.mem_of_getElem? (i := 635) (by decide +kernel)) rfl
theorem rk_w636 : (Jvm.Cond.fieldLink "RowImproverModel" (19 : Nat) "RowImproverModel" "with" "[I") ∈ rz_tw := rz_use (List.mem_of_getElem? (i := 636) (by decide +kernel)) rfl
theorem rk_w637 : (Jvm.Cond.fieldLink "RowImproverModel" (22 : Nat) "RowImproverModel" "starts" "[I") ∈ rz_tw := rz_use (List.mem_of_getElem? (i := 637) (by decide +kernel)) rfl
theorem rk_w638 : (Jvm.Cond.fieldLink "RowImproverModel" (25 : Nat) "RowImproverModel" "cells" "[I") ∈ rz_tw := rz_use (List.mem_of_getElem? (i := 638) (by decide +kernel)) rfl
theorem rk_w641 : (Jvm.Cond.fieldLink "RowImproverModel" (28 : Nat) "RowImproverModel" "lives" "[I") ∈ rz_tw := rz_use (List.mem_of_getElem? (i := 641) (by decide +kernel)) rfl
theorem rk_w642 : (Jvm.Cond.fieldLink "RowImproverModel" (31 : Nat) "RowImproverModel" "state" "[I") ∈ rz_tw := rz_use (List.mem_of_getElem? (i := 642) (by decide +kernel)) rfl
theorem rk_w643 : (Jvm.Cond.fieldLink "RowImproverModel" (34 : Nat) "RowImproverModel" "first" "[I") ∈ rz_tw := rz_use (List.mem_of_getElem? (i := 643) (by decide +kernel)) rfl
/-- a new RowImproverModel -/
def rk_y7 : MethodName := ⟨"RowImproverModel", "<init>", "()V"⟩
theorem rk_d7_0 : decode prog_11_method_1_code 0 = .ok (.aload_n 0, 1) := by decide +kernel
theorem rk_d7_1 : decode prog_11_method_1_code 1 = .ok (.invokespecial 1, 3) := by decide +kernel
theorem rk_d7_4 : decode prog_11_method_1_code 4 = .ok (.aload_n 0, 1) := by decide +kernel
theorem rk_d7_5 : decode prog_11_method_1_code 5 = .ok (.bipush 25, 2) := by decide +kernel
theorem rk_d7_7 : decode prog_11_method_1_code 7 = .ok (.newarray .int, 2) := by decide +kernel
theorem rk_d7_9 : decode prog_11_method_1_code 9 = .ok (.putfield 7, 3) := by decide +kernel
theorem rk_d7_12 : decode prog_11_method_1_code 12 = .ok (.aload_n 0, 1) := by decide +kernel
theorem rk_d7_13 : decode prog_11_method_1_code 13 = .ok (.bipush 25, 2) := by decide +kernel
theorem rk_d7_15 : decode prog_11_method_1_code 15 = .ok (.newarray .int, 2) := by decide +kernel
theorem rk_d7_17 : decode prog_11_method_1_code 17 = .ok (.putfield 13, 3) := by decide +kernel
theorem rk_d7_20 : decode prog_11_method_1_code 20 = .ok (.aload_n 0, 1) := by decide +kernel
theorem rk_d7_21 : decode prog_11_method_1_code 21 = .ok (.bipush 25, 2) := by decide +kernel
theorem rk_d7_23 : decode prog_11_method_1_code 23 = .ok (.newarray .int, 2) := by decide +kernel
theorem rk_d7_25 : decode prog_11_method_1_code 25 = .ok (.putfield 16, 3) := by decide +kernel
theorem rk_d7_28 : decode prog_11_method_1_code 28 = .ok (.aload_n 0, 1) := by decide +kernel
theorem rk_d7_29 : decode prog_11_method_1_code 29 = .ok (.bipush 25, 2) := by decide +kernel
theorem rk_d7_31 : decode prog_11_method_1_code 31 = .ok (.newarray .int, 2) := by decide +kernel
theorem rk_d7_33 : decode prog_11_method_1_code 33 = .ok (.putfield 19, 3) := by decide +kernel
theorem rk_d7_36 : decode prog_11_method_1_code 36 = .ok (.aload_n 0, 1) := by decide +kernel
theorem rk_d7_37 : decode prog_11_method_1_code 37 = .ok (.bipush 12, 2) := by decide +kernel
theorem rk_d7_39 : decode prog_11_method_1_code 39 = .ok (.newarray .int, 2) := by decide +kernel
theorem rk_d7_41 : decode prog_11_method_1_code 41 = .ok (.putfield 22, 3) := by decide +kernel
theorem rk_d7_44 : decode prog_11_method_1_code 44 = .ok (.aload_n 0, 1) := by decide +kernel
theorem rk_d7_45 : decode prog_11_method_1_code 45 = .ok (.bipush 12, 2) := by decide +kernel
theorem rk_d7_47 : decode prog_11_method_1_code 47 = .ok (.newarray .int, 2) := by decide +kernel
theorem rk_d7_49 : decode prog_11_method_1_code 49 = .ok (.putfield 25, 3) := by decide +kernel
theorem rk_d7_52 : decode prog_11_method_1_code 52 = .ok (.aload_n 0, 1) := by decide +kernel
theorem rk_d7_53 : decode prog_11_method_1_code 53 = .ok (.bipush 25, 2) := by decide +kernel
theorem rk_d7_55 : decode prog_11_method_1_code 55 = .ok (.newarray .int, 2) := by decide +kernel
theorem rk_d7_57 : decode prog_11_method_1_code 57 = .ok (.putfield 28, 3) := by decide +kernel
theorem rk_d7_60 : decode prog_11_method_1_code 60 = .ok (.aload_n 0, 1) := by decide +kernel
theorem rk_d7_61 : decode prog_11_method_1_code 61 = .ok (.iconst 4, 1) := by decide +kernel
theorem rk_d7_62 : decode prog_11_method_1_code 62 = .ok (.newarray .int, 2) := by decide +kernel
theorem rk_d7_64 : decode prog_11_method_1_code 64 = .ok (.putfield 31, 3) := by decide +kernel
theorem rk_d7_67 : decode prog_11_method_1_code 67 = .ok (.aload_n 0, 1) := by decide +kernel
theorem rk_d7_68 : decode prog_11_method_1_code 68 = .ok (.iconst 4, 1) := by decide +kernel
theorem rk_d7_69 : decode prog_11_method_1_code 69 = .ok (.newarray .int, 2) := by decide +kernel
theorem rk_d7_71 : decode prog_11_method_1_code 71 = .ok (.putfield 34, 3) := by decide +kernel
theorem rk_d7_74 : decode prog_11_method_1_code 74 = .ok (.return_, 1) := by decide +kernel
set_option maxHeartbeats 4000000 in
set_option maxRecDepth 100000 in
theorem k_7 (l : Launch) (D : va_G) (cI cJ : ClassId) (h0 sz : Nat) : Met l rk_y7 (Cond.code rk_y7 prog_11_method_1_code 1 none :: rz_tw) ({ frames := 1, cells := 9, slots := 157, locals := 12 }) (rz_prc D cI cJ h0 sz [(h0, .inr (7, [.int 0, .int 0, .null, .null, .null, .null, .null, .null, .int 0, .int 0, .null, .null, .null, .int 0, .int 0, .int 0]))]) (va_Qv (fun _ : Unit => True) (fun _ t => ∃ q1 q2 q3 q4 q5 q6 q7 q8 q9 : Nat, va_P D rz_cl [(h0, .inr (7, [.int 0, .int 0, .ref q1, .ref q2, .ref q3, .ref q4, .ref q5, .ref q6, .int 0, .int 0, .ref q7, .ref q8, .ref q9, .int 0, .int 0, .int 0])), (q1, .inl (cI, 25, .inl fun _ => 0)), (q2, .inl (cI, 25, .inl fun _ => 0)), (q3, .inl (cI, 25, .inl fun _ => 0)), (q4, .inl (cI, 25, .inl fun _ => 0)), (q5, .inl (cI, 12, .inl fun _ => 0)), (q6, .inl (cI, 12, .inl fun _ => 0)), (q7, .inl (cI, 25, .inl fun _ => 0)), (q8, .inl (cI, 4, .inl fun _ => 0)), (q9, .inl (cI, 4, .inl fun _ => 0))] t.heap ∧ va_D (va_A [(h0, .inr (7, [.int 0, .int 0, .null, .null, .null, .null, .null, .null, .int 0, .int 0, .null, .null, .null, .int 0, .int 0, .int 0]))] sz) [(h0, .inr (7, [.int 0, .int 0, .ref q1, .ref q2, .ref q3, .ref q4, .ref q5, .ref q6, .int 0, .int 0, .ref q7, .ref q8, .ref q9, .int 0, .int 0, .int 0])), (q1, .inl (cI, 25, .inl fun _ => 0)), (q2, .inl (cI, 25, .inl fun _ => 0)), (q3, .inl (cI, 25, .inl fun _ => 0)), (q4, .inl (cI, 25, .inl fun _ => 0)), (q5, .inl (cI, 12, .inl fun _ => 0)), (q6, .inl (cI, 12, .inl fun _ => 0)), (q7, .inl (cI, 25, .inl fun _ => 0)), (q8, .inl (cI, 4, .inl fun _ => 0)), (q9, .inl (cI, 4, .inl fun _ => 0))]) (va_A [(h0, .inr (7, [.int 0, .int 0, .null, .null, .null, .null, .null, .null, .int 0, .int 0, .null, .null, .null, .int 0, .int 0, .int 0]))] sz)) 9 157 (va_A [(h0, .inr (7, [.int 0, .int 0, .null, .null, .null, .null, .null, .null, .int 0, .int 0, .null, .null, .null, .int 0, .int 0, .int 0]))] sz) := by
  refine Met.ofW (cc := prog_11_method_1_code) (maxL := 1) (ret := none) (by decide) rfl ?_
  intro p e s m args below meth c s₁ B hml hv
  obtain ⟨rfl, hsz, hP, hK, hD0, hN⟩ := hv
  have hx := B.exec
  have hb := B.bytes
  have hr := B.returns
  have hts : ∀ w ∈ rz_tw, w.before ([.ref h0] : List Value).toArray s = true := fun w hw => atoms_spec (ws := Cond.code rk_y7 prog_11_method_1_code 1 none :: rz_tw) B.pre w (List.mem_cons_of_mem _ hw)
  have hown : s.vm.findClass "RowImproverModel" = some m.cls := findClass_of_methodNamed B.named
  have hlocks := B.notSynchronized
  have hin : meth.name = "<init>" := (name_of_methodNamed B.named B.method).1
  subst hsz
  have hD := hD0.self (sz := s.heap.size)
  generalize hAe : va_A [(h0, .inr (7, [.int 0, .int 0, .null, .null, .null, .null, .null, .null, .int 0, .int 0, .null, .null, .null, .int 0, .int 0, .int 0]))] s.heap.size = A at hD ⊢
  have hA : ∀ q : Nat, s.heap.size ≤ q → A q := fun q h => by rw [← hAe]; exact Or.inr h
  have hS : va_S A s.heap s.heap [] := va_S.rf
  have hP : va_P D rz_cl [(h0, .inr (7, [.int 0, .int 0, .null, .null, .null, .null, .null, .null, .int 0, .int 0, .null, .null, .null, .int 0, .int 0, .int 0]))] s.heap := hP
  have hl := lv_entry ([.ref h0]) (n := 1) (Nat.le_of_ble_eq_true rfl)
  rw [lg_entry_eq]
  generalize (lg_sl ([.ref h0]) ++ List.replicate (1 - (lg_sl ([.ref h0])).length) Slot.unset).toArray = ls at hl ⊢
  have hl : lv_has ls 1 [(0, .ref h0)] := hl
  refine lv_aload_n hx hb rk_d7_0 rfl (lv_at hl 0 rfl) ?_
  refine W.objInit hx hb hown (hts _ rk_w630) (hts _ rk_w54) (hts _ rk_w55) rfl (by rw [hml]; exact hl.1) rfl rk_d7_1 (Nat.le_of_ble_eq_true rfl) (Nat.le_of_ble_eq_true rfl) ?_
  refine W.eq (g2 := F0 m 4 ls []) rfl ?_
  refine lv_aload_n hx hb rk_d7_4 rfl (lv_at hl 0 rfl) ?_
  refine lv_bipush (v := 25) hx hb rk_d7_5 (by decide) ?_
  refine rz_newi hx hb (hts _ rk_ai) hK hP hD hS hA (N' := 25) (by decide) (by decide) (by decide) (show 0 + 1 ≤ 9 by decide) (show 0 + 25 ≤ 157 by decide) rk_d7_7 (fun q1 H hP hD hS => ?_)
  have hP : va_P D rz_cl [(h0, .inr (7, [.int 0, .int 0, .null, .null, .null, .null, .null, .null, .int 0, .int 0, .null, .null, .null, .int 0, .int 0, .int 0])), (q1, .inl (cI, 25, .inl fun _ => 0))] H := hP
  have hD : va_D A [(h0, .inr (7, [.int 0, .int 0, .null, .null, .null, .null, .null, .null, .int 0, .int 0, .null, .null, .null, .int 0, .int 0, .int 0])), (q1, .inl (cI, 25, .inl fun _ => 0))] := hD
  refine W.widen (k := 1) (n := 25) (by omega) (by omega) ?_
  refine va_putF (D := D) (ci := 7) (v := .ref q1) (ty := .array .int) (C := "RowImproverModel") (T := rz_F7) (N := 16) hx hb hts (rz_clw_of (ci := 7) rfl) (rz_fty 7) (rz_cty_of (ci := 7) rfl) (rz_cnm_of (ci := 7) rfl) hown hK hP hD hS 0 rfl rfl 2 (by decide) (hts _ rk_w633) (fun _ h9 => h9) rfl hin rfl (by decide +kernel) rfl rfl (Nat.le_of_ble_eq_true rfl) rk_d7_9 (fun H locs hP hD hS => ?_)
  have hP : va_P D rz_cl [(h0, .inr (7, [.int 0, .int 0, .ref q1, .null, .null, .null, .null, .null, .int 0, .int 0, .null, .null, .null, .int 0, .int 0, .int 0])), (q1, .inl (cI, 25, .inl fun _ => 0))] H := hP
  have hD : va_D A [(h0, .inr (7, [.int 0, .int 0, .ref q1, .null, .null, .null, .null, .null, .int 0, .int 0, .null, .null, .null, .int 0, .int 0, .int 0])), (q1, .inl (cI, 25, .inl fun _ => 0))] := hD
  refine lv_aload_n hx hb rk_d7_12 rfl (lv_at hl 0 rfl) ?_
  refine lv_bipush (v := 25) hx hb rk_d7_13 (by decide) ?_
  refine rz_newi hx hb (hts _ rk_ai) hK hP hD hS hA (N' := 25) (by decide) (by decide) (by decide) (show 1 + 1 ≤ 9 by decide) (show 25 + 25 ≤ 157 by decide) rk_d7_15 (fun q2 H hP hD hS => ?_)
  have hP : va_P D rz_cl [(h0, .inr (7, [.int 0, .int 0, .ref q1, .null, .null, .null, .null, .null, .int 0, .int 0, .null, .null, .null, .int 0, .int 0, .int 0])), (q1, .inl (cI, 25, .inl fun _ => 0)), (q2, .inl (cI, 25, .inl fun _ => 0))] H := hP
  have hD : va_D A [(h0, .inr (7, [.int 0, .int 0, .ref q1, .null, .null, .null, .null, .null, .int 0, .int 0, .null, .null, .null, .int 0, .int 0, .int 0])), (q1, .inl (cI, 25, .inl fun _ => 0)), (q2, .inl (cI, 25, .inl fun _ => 0))] := hD
  refine W.widen (k := 2) (n := 50) (by omega) (by omega) ?_
  refine va_putF (D := D) (ci := 7) (v := .ref q2) (ty := .array .int) (C := "RowImproverModel") (T := rz_F7) (N := 16) hx hb hts (rz_clw_of (ci := 7) rfl) (rz_fty 7) (rz_cty_of (ci := 7) rfl) (rz_cnm_of (ci := 7) rfl) hown hK hP hD hS 0 rfl rfl 3 (by decide) (hts _ rk_w634) (fun _ h9 => h9) rfl hin rfl (by decide +kernel) rfl rfl (Nat.le_of_ble_eq_true rfl) rk_d7_17 (fun H locs hP hD hS => ?_)
  have hP : va_P D rz_cl [(h0, .inr (7, [.int 0, .int 0, .ref q1, .ref q2, .null, .null, .null, .null, .int 0, .int 0, .null, .null, .null, .int 0, .int 0, .int 0])), (q1, .inl (cI, 25, .inl fun _ => 0)), (q2, .inl (cI, 25, .inl fun _ => 0))] H := hP
  have hD : va_D A [(h0, .inr (7, [.int 0, .int 0, .ref q1, .ref q2, .null, .null, .null, .null, .int 0, .int 0, .null, .null, .null, .int 0, .int 0, .int 0])), (q1, .inl (cI, 25, .inl fun _ => 0)), (q2, .inl (cI, 25, .inl fun _ => 0))] := hD
  refine lv_aload_n hx hb rk_d7_20 rfl (lv_at hl 0 rfl) ?_
  refine lv_bipush (v := 25) hx hb rk_d7_21 (by decide) ?_
  refine rz_newi hx hb (hts _ rk_ai) hK hP hD hS hA (N' := 25) (by decide) (by decide) (by decide) (show 2 + 1 ≤ 9 by decide) (show 50 + 25 ≤ 157 by decide) rk_d7_23 (fun q3 H hP hD hS => ?_)
  have hP : va_P D rz_cl [(h0, .inr (7, [.int 0, .int 0, .ref q1, .ref q2, .null, .null, .null, .null, .int 0, .int 0, .null, .null, .null, .int 0, .int 0, .int 0])), (q1, .inl (cI, 25, .inl fun _ => 0)), (q2, .inl (cI, 25, .inl fun _ => 0)), (q3, .inl (cI, 25, .inl fun _ => 0))] H := hP
  have hD : va_D A [(h0, .inr (7, [.int 0, .int 0, .ref q1, .ref q2, .null, .null, .null, .null, .int 0, .int 0, .null, .null, .null, .int 0, .int 0, .int 0])), (q1, .inl (cI, 25, .inl fun _ => 0)), (q2, .inl (cI, 25, .inl fun _ => 0)), (q3, .inl (cI, 25, .inl fun _ => 0))] := hD
  refine W.widen (k := 3) (n := 75) (by omega) (by omega) ?_
  refine va_putF (D := D) (ci := 7) (v := .ref q3) (ty := .array .int) (C := "RowImproverModel") (T := rz_F7) (N := 16) hx hb hts (rz_clw_of (ci := 7) rfl) (rz_fty 7) (rz_cty_of (ci := 7) rfl) (rz_cnm_of (ci := 7) rfl) hown hK hP hD hS 0 rfl rfl 4 (by decide) (hts _ rk_w635) (fun _ h9 => h9) rfl hin rfl (by decide +kernel) rfl rfl (Nat.le_of_ble_eq_true rfl) rk_d7_25 (fun H locs hP hD hS => ?_)
  have hP : va_P D rz_cl [(h0, .inr (7, [.int 0, .int 0, .ref q1, .ref q2, .ref q3, .null, .null, .null, .int 0, .int 0, .null, .null, .null, .int 0, .int 0, .int 0])), (q1, .inl (cI, 25, .inl fun _ => 0)), (q2, .inl (cI, 25, .inl fun _ => 0)), (q3, .inl (cI, 25, .inl fun _ => 0))] H := hP
  have hD : va_D A [(h0, .inr (7, [.int 0, .int 0, .ref q1, .ref q2, .ref q3, .null, .null, .null, .int 0, .int 0, .null, .null, .null, .int 0, .int 0, .int 0])), (q1, .inl (cI, 25, .inl fun _ => 0)), (q2, .inl (cI, 25, .inl fun _ => 0)), (q3, .inl (cI, 25, .inl fun _ => 0))] := hD
  refine lv_aload_n hx hb rk_d7_28 rfl (lv_at hl 0 rfl) ?_
  refine lv_bipush (v := 25) hx hb rk_d7_29 (by decide) ?_
  refine rz_newi hx hb (hts _ rk_ai) hK hP hD hS hA (N' := 25) (by decide) (by decide) (by decide) (show 3 + 1 ≤ 9 by decide) (show 75 + 25 ≤ 157 by decide) rk_d7_31 (fun q4 H hP hD hS => ?_)
  have hP : va_P D rz_cl [(h0, .inr (7, [.int 0, .int 0, .ref q1, .ref q2, .ref q3, .null, .null, .null, .int 0, .int 0, .null, .null, .null, .int 0, .int 0, .int 0])), (q1, .inl (cI, 25, .inl fun _ => 0)), (q2, .inl (cI, 25, .inl fun _ => 0)), (q3, .inl (cI, 25, .inl fun _ => 0)), (q4, .inl (cI, 25, .inl fun _ => 0))] H := hP
  have hD : va_D A [(h0, .inr (7, [.int 0, .int 0, .ref q1, .ref q2, .ref q3, .null, .null, .null, .int 0, .int 0, .null, .null, .null, .int 0, .int 0, .int 0])), (q1, .inl (cI, 25, .inl fun _ => 0)), (q2, .inl (cI, 25, .inl fun _ => 0)), (q3, .inl (cI, 25, .inl fun _ => 0)), (q4, .inl (cI, 25, .inl fun _ => 0))] := hD
  refine W.widen (k := 4) (n := 100) (by omega) (by omega) ?_
  refine va_putF (D := D) (ci := 7) (v := .ref q4) (ty := .array .int) (C := "RowImproverModel") (T := rz_F7) (N := 16) hx hb hts (rz_clw_of (ci := 7) rfl) (rz_fty 7) (rz_cty_of (ci := 7) rfl) (rz_cnm_of (ci := 7) rfl) hown hK hP hD hS 0 rfl rfl 5 (by decide) (hts _ rk_w636) (fun _ h9 => h9) rfl hin rfl (by decide +kernel) rfl rfl (Nat.le_of_ble_eq_true rfl) rk_d7_33 (fun H locs hP hD hS => ?_)
  have hP : va_P D rz_cl [(h0, .inr (7, [.int 0, .int 0, .ref q1, .ref q2, .ref q3, .ref q4, .null, .null, .int 0, .int 0, .null, .null, .null, .int 0, .int 0, .int 0])), (q1, .inl (cI, 25, .inl fun _ => 0)), (q2, .inl (cI, 25, .inl fun _ => 0)), (q3, .inl (cI, 25, .inl fun _ => 0)), (q4, .inl (cI, 25, .inl fun _ => 0))] H := hP
  have hD : va_D A [(h0, .inr (7, [.int 0, .int 0, .ref q1, .ref q2, .ref q3, .ref q4, .null, .null, .int 0, .int 0, .null, .null, .null, .int 0, .int 0, .int 0])), (q1, .inl (cI, 25, .inl fun _ => 0)), (q2, .inl (cI, 25, .inl fun _ => 0)), (q3, .inl (cI, 25, .inl fun _ => 0)), (q4, .inl (cI, 25, .inl fun _ => 0))] := hD
  refine lv_aload_n hx hb rk_d7_36 rfl (lv_at hl 0 rfl) ?_
  refine lv_bipush (v := 12) hx hb rk_d7_37 (by decide) ?_
  refine rz_newi hx hb (hts _ rk_ai) hK hP hD hS hA (N' := 12) (by decide) (by decide) (by decide) (show 4 + 1 ≤ 9 by decide) (show 100 + 12 ≤ 157 by decide) rk_d7_39 (fun q5 H hP hD hS => ?_)
  have hP : va_P D rz_cl [(h0, .inr (7, [.int 0, .int 0, .ref q1, .ref q2, .ref q3, .ref q4, .null, .null, .int 0, .int 0, .null, .null, .null, .int 0, .int 0, .int 0])), (q1, .inl (cI, 25, .inl fun _ => 0)), (q2, .inl (cI, 25, .inl fun _ => 0)), (q3, .inl (cI, 25, .inl fun _ => 0)), (q4, .inl (cI, 25, .inl fun _ => 0)), (q5, .inl (cI, 12, .inl fun _ => 0))] H := hP
  have hD : va_D A [(h0, .inr (7, [.int 0, .int 0, .ref q1, .ref q2, .ref q3, .ref q4, .null, .null, .int 0, .int 0, .null, .null, .null, .int 0, .int 0, .int 0])), (q1, .inl (cI, 25, .inl fun _ => 0)), (q2, .inl (cI, 25, .inl fun _ => 0)), (q3, .inl (cI, 25, .inl fun _ => 0)), (q4, .inl (cI, 25, .inl fun _ => 0)), (q5, .inl (cI, 12, .inl fun _ => 0))] := hD
  refine W.widen (k := 5) (n := 112) (by omega) (by omega) ?_
  refine va_putF (D := D) (ci := 7) (v := .ref q5) (ty := .array .int) (C := "RowImproverModel") (T := rz_F7) (N := 16) hx hb hts (rz_clw_of (ci := 7) rfl) (rz_fty 7) (rz_cty_of (ci := 7) rfl) (rz_cnm_of (ci := 7) rfl) hown hK hP hD hS 0 rfl rfl 6 (by decide) (hts _ rk_w637) (fun _ h9 => h9) rfl hin rfl (by decide +kernel) rfl rfl (Nat.le_of_ble_eq_true rfl) rk_d7_41 (fun H locs hP hD hS => ?_)
  have hP : va_P D rz_cl [(h0, .inr (7, [.int 0, .int 0, .ref q1, .ref q2, .ref q3, .ref q4, .ref q5, .null, .int 0, .int 0, .null, .null, .null, .int 0, .int 0, .int 0])), (q1, .inl (cI, 25, .inl fun _ => 0)), (q2, .inl (cI, 25, .inl fun _ => 0)), (q3, .inl (cI, 25, .inl fun _ => 0)), (q4, .inl (cI, 25, .inl fun _ => 0)), (q5, .inl (cI, 12, .inl fun _ => 0))] H := hP
  have hD : va_D A [(h0, .inr (7, [.int 0, .int 0, .ref q1, .ref q2, .ref q3, .ref q4, .ref q5, .null, .int 0, .int 0, .null, .null, .null, .int 0, .int 0, .int 0])), (q1, .inl (cI, 25, .inl fun _ => 0)), (q2, .inl (cI, 25, .inl fun _ => 0)), (q3, .inl (cI, 25, .inl fun _ => 0)), (q4, .inl (cI, 25, .inl fun _ => 0)), (q5, .inl (cI, 12, .inl fun _ => 0))] := hD
  refine lv_aload_n hx hb rk_d7_44 rfl (lv_at hl 0 rfl) ?_
  refine lv_bipush (v := 12) hx hb rk_d7_45 (by decide) ?_
  refine rz_newi hx hb (hts _ rk_ai) hK hP hD hS hA (N' := 12) (by decide) (by decide) (by decide) (show 5 + 1 ≤ 9 by decide) (show 112 + 12 ≤ 157 by decide) rk_d7_47 (fun q6 H hP hD hS => ?_)
  have hP : va_P D rz_cl [(h0, .inr (7, [.int 0, .int 0, .ref q1, .ref q2, .ref q3, .ref q4, .ref q5, .null, .int 0, .int 0, .null, .null, .null, .int 0, .int 0, .int 0])), (q1, .inl (cI, 25, .inl fun _ => 0)), (q2, .inl (cI, 25, .inl fun _ => 0)), (q3, .inl (cI, 25, .inl fun _ => 0)), (q4, .inl (cI, 25, .inl fun _ => 0)), (q5, .inl (cI, 12, .inl fun _ => 0)), (q6, .inl (cI, 12, .inl fun _ => 0))] H := hP
  have hD : va_D A [(h0, .inr (7, [.int 0, .int 0, .ref q1, .ref q2, .ref q3, .ref q4, .ref q5, .null, .int 0, .int 0, .null, .null, .null, .int 0, .int 0, .int 0])), (q1, .inl (cI, 25, .inl fun _ => 0)), (q2, .inl (cI, 25, .inl fun _ => 0)), (q3, .inl (cI, 25, .inl fun _ => 0)), (q4, .inl (cI, 25, .inl fun _ => 0)), (q5, .inl (cI, 12, .inl fun _ => 0)), (q6, .inl (cI, 12, .inl fun _ => 0))] := hD
  refine W.widen (k := 6) (n := 124) (by omega) (by omega) ?_
  refine va_putF (D := D) (ci := 7) (v := .ref q6) (ty := .array .int) (C := "RowImproverModel") (T := rz_F7) (N := 16) hx hb hts (rz_clw_of (ci := 7) rfl) (rz_fty 7) (rz_cty_of (ci := 7) rfl) (rz_cnm_of (ci := 7) rfl) hown hK hP hD hS 0 rfl rfl 7 (by decide) (hts _ rk_w638) (fun _ h9 => h9) rfl hin rfl (by decide +kernel) rfl rfl (Nat.le_of_ble_eq_true rfl) rk_d7_49 (fun H locs hP hD hS => ?_)
  have hP : va_P D rz_cl [(h0, .inr (7, [.int 0, .int 0, .ref q1, .ref q2, .ref q3, .ref q4, .ref q5, .ref q6, .int 0, .int 0, .null, .null, .null, .int 0, .int 0, .int 0])), (q1, .inl (cI, 25, .inl fun _ => 0)), (q2, .inl (cI, 25, .inl fun _ => 0)), (q3, .inl (cI, 25, .inl fun _ => 0)), (q4, .inl (cI, 25, .inl fun _ => 0)), (q5, .inl (cI, 12, .inl fun _ => 0)), (q6, .inl (cI, 12, .inl fun _ => 0))] H := hP
  have hD : va_D A [(h0, .inr (7, [.int 0, .int 0, .ref q1, .ref q2, .ref q3, .ref q4, .ref q5, .ref q6, .int 0, .int 0, .null, .null, .null, .int 0, .int 0, .int 0])), (q1, .inl (cI, 25, .inl fun _ => 0)), (q2, .inl (cI, 25, .inl fun _ => 0)), (q3, .inl (cI, 25, .inl fun _ => 0)), (q4, .inl (cI, 25, .inl fun _ => 0)), (q5, .inl (cI, 12, .inl fun _ => 0)), (q6, .inl (cI, 12, .inl fun _ => 0))] := hD
  refine lv_aload_n hx hb rk_d7_52 rfl (lv_at hl 0 rfl) ?_
  refine lv_bipush (v := 25) hx hb rk_d7_53 (by decide) ?_
  refine rz_newi hx hb (hts _ rk_ai) hK hP hD hS hA (N' := 25) (by decide) (by decide) (by decide) (show 6 + 1 ≤ 9 by decide) (show 124 + 25 ≤ 157 by decide) rk_d7_55 (fun q7 H hP hD hS => ?_)
  have hP : va_P D rz_cl [(h0, .inr (7, [.int 0, .int 0, .ref q1, .ref q2, .ref q3, .ref q4, .ref q5, .ref q6, .int 0, .int 0, .null, .null, .null, .int 0, .int 0, .int 0])), (q1, .inl (cI, 25, .inl fun _ => 0)), (q2, .inl (cI, 25, .inl fun _ => 0)), (q3, .inl (cI, 25, .inl fun _ => 0)), (q4, .inl (cI, 25, .inl fun _ => 0)), (q5, .inl (cI, 12, .inl fun _ => 0)), (q6, .inl (cI, 12, .inl fun _ => 0)), (q7, .inl (cI, 25, .inl fun _ => 0))] H := hP
  have hD : va_D A [(h0, .inr (7, [.int 0, .int 0, .ref q1, .ref q2, .ref q3, .ref q4, .ref q5, .ref q6, .int 0, .int 0, .null, .null, .null, .int 0, .int 0, .int 0])), (q1, .inl (cI, 25, .inl fun _ => 0)), (q2, .inl (cI, 25, .inl fun _ => 0)), (q3, .inl (cI, 25, .inl fun _ => 0)), (q4, .inl (cI, 25, .inl fun _ => 0)), (q5, .inl (cI, 12, .inl fun _ => 0)), (q6, .inl (cI, 12, .inl fun _ => 0)), (q7, .inl (cI, 25, .inl fun _ => 0))] := hD
  refine W.widen (k := 7) (n := 149) (by omega) (by omega) ?_
  refine va_putF (D := D) (ci := 7) (v := .ref q7) (ty := .array .int) (C := "RowImproverModel") (T := rz_F7) (N := 16) hx hb hts (rz_clw_of (ci := 7) rfl) (rz_fty 7) (rz_cty_of (ci := 7) rfl) (rz_cnm_of (ci := 7) rfl) hown hK hP hD hS 0 rfl rfl 10 (by decide) (hts _ rk_w641) (fun _ h9 => h9) rfl hin rfl (by decide +kernel) rfl rfl (Nat.le_of_ble_eq_true rfl) rk_d7_57 (fun H locs hP hD hS => ?_)
  have hP : va_P D rz_cl [(h0, .inr (7, [.int 0, .int 0, .ref q1, .ref q2, .ref q3, .ref q4, .ref q5, .ref q6, .int 0, .int 0, .ref q7, .null, .null, .int 0, .int 0, .int 0])), (q1, .inl (cI, 25, .inl fun _ => 0)), (q2, .inl (cI, 25, .inl fun _ => 0)), (q3, .inl (cI, 25, .inl fun _ => 0)), (q4, .inl (cI, 25, .inl fun _ => 0)), (q5, .inl (cI, 12, .inl fun _ => 0)), (q6, .inl (cI, 12, .inl fun _ => 0)), (q7, .inl (cI, 25, .inl fun _ => 0))] H := hP
  have hD : va_D A [(h0, .inr (7, [.int 0, .int 0, .ref q1, .ref q2, .ref q3, .ref q4, .ref q5, .ref q6, .int 0, .int 0, .ref q7, .null, .null, .int 0, .int 0, .int 0])), (q1, .inl (cI, 25, .inl fun _ => 0)), (q2, .inl (cI, 25, .inl fun _ => 0)), (q3, .inl (cI, 25, .inl fun _ => 0)), (q4, .inl (cI, 25, .inl fun _ => 0)), (q5, .inl (cI, 12, .inl fun _ => 0)), (q6, .inl (cI, 12, .inl fun _ => 0)), (q7, .inl (cI, 25, .inl fun _ => 0))] := hD
  refine lv_aload_n hx hb rk_d7_60 rfl (lv_at hl 0 rfl) ?_
  refine lv_iconst (v := 4) hx hb rk_d7_61 (by decide) ?_
  refine rz_newi hx hb (hts _ rk_ai) hK hP hD hS hA (N' := 4) (by decide) (by decide) (by decide) (show 7 + 1 ≤ 9 by decide) (show 149 + 4 ≤ 157 by decide) rk_d7_62 (fun q8 H hP hD hS => ?_)
  have hP : va_P D rz_cl [(h0, .inr (7, [.int 0, .int 0, .ref q1, .ref q2, .ref q3, .ref q4, .ref q5, .ref q6, .int 0, .int 0, .ref q7, .null, .null, .int 0, .int 0, .int 0])), (q1, .inl (cI, 25, .inl fun _ => 0)), (q2, .inl (cI, 25, .inl fun _ => 0)), (q3, .inl (cI, 25, .inl fun _ => 0)), (q4, .inl (cI, 25, .inl fun _ => 0)), (q5, .inl (cI, 12, .inl fun _ => 0)), (q6, .inl (cI, 12, .inl fun _ => 0)), (q7, .inl (cI, 25, .inl fun _ => 0)), (q8, .inl (cI, 4, .inl fun _ => 0))] H := hP
  have hD : va_D A [(h0, .inr (7, [.int 0, .int 0, .ref q1, .ref q2, .ref q3, .ref q4, .ref q5, .ref q6, .int 0, .int 0, .ref q7, .null, .null, .int 0, .int 0, .int 0])), (q1, .inl (cI, 25, .inl fun _ => 0)), (q2, .inl (cI, 25, .inl fun _ => 0)), (q3, .inl (cI, 25, .inl fun _ => 0)), (q4, .inl (cI, 25, .inl fun _ => 0)), (q5, .inl (cI, 12, .inl fun _ => 0)), (q6, .inl (cI, 12, .inl fun _ => 0)), (q7, .inl (cI, 25, .inl fun _ => 0)), (q8, .inl (cI, 4, .inl fun _ => 0))] := hD
  refine W.widen (k := 8) (n := 153) (by omega) (by omega) ?_
  refine va_putF (D := D) (ci := 7) (v := .ref q8) (ty := .array .int) (C := "RowImproverModel") (T := rz_F7) (N := 16) hx hb hts (rz_clw_of (ci := 7) rfl) (rz_fty 7) (rz_cty_of (ci := 7) rfl) (rz_cnm_of (ci := 7) rfl) hown hK hP hD hS 0 rfl rfl 11 (by decide) (hts _ rk_w642) (fun _ h9 => h9) rfl hin rfl (by decide +kernel) rfl rfl (Nat.le_of_ble_eq_true rfl) rk_d7_64 (fun H locs hP hD hS => ?_)
  have hP : va_P D rz_cl [(h0, .inr (7, [.int 0, .int 0, .ref q1, .ref q2, .ref q3, .ref q4, .ref q5, .ref q6, .int 0, .int 0, .ref q7, .ref q8, .null, .int 0, .int 0, .int 0])), (q1, .inl (cI, 25, .inl fun _ => 0)), (q2, .inl (cI, 25, .inl fun _ => 0)), (q3, .inl (cI, 25, .inl fun _ => 0)), (q4, .inl (cI, 25, .inl fun _ => 0)), (q5, .inl (cI, 12, .inl fun _ => 0)), (q6, .inl (cI, 12, .inl fun _ => 0)), (q7, .inl (cI, 25, .inl fun _ => 0)), (q8, .inl (cI, 4, .inl fun _ => 0))] H := hP
  have hD : va_D A [(h0, .inr (7, [.int 0, .int 0, .ref q1, .ref q2, .ref q3, .ref q4, .ref q5, .ref q6, .int 0, .int 0, .ref q7, .ref q8, .null, .int 0, .int 0, .int 0])), (q1, .inl (cI, 25, .inl fun _ => 0)), (q2, .inl (cI, 25, .inl fun _ => 0)), (q3, .inl (cI, 25, .inl fun _ => 0)), (q4, .inl (cI, 25, .inl fun _ => 0)), (q5, .inl (cI, 12, .inl fun _ => 0)), (q6, .inl (cI, 12, .inl fun _ => 0)), (q7, .inl (cI, 25, .inl fun _ => 0)), (q8, .inl (cI, 4, .inl fun _ => 0))] := hD
  refine lv_aload_n hx hb rk_d7_67 rfl (lv_at hl 0 rfl) ?_
  refine lv_iconst (v := 4) hx hb rk_d7_68 (by decide) ?_
  refine rz_newi hx hb (hts _ rk_ai) hK hP hD hS hA (N' := 4) (by decide) (by decide) (by decide) (show 8 + 1 ≤ 9 by decide) (show 153 + 4 ≤ 157 by decide) rk_d7_69 (fun q9 H hP hD hS => ?_)
  have hP : va_P D rz_cl [(h0, .inr (7, [.int 0, .int 0, .ref q1, .ref q2, .ref q3, .ref q4, .ref q5, .ref q6, .int 0, .int 0, .ref q7, .ref q8, .null, .int 0, .int 0, .int 0])), (q1, .inl (cI, 25, .inl fun _ => 0)), (q2, .inl (cI, 25, .inl fun _ => 0)), (q3, .inl (cI, 25, .inl fun _ => 0)), (q4, .inl (cI, 25, .inl fun _ => 0)), (q5, .inl (cI, 12, .inl fun _ => 0)), (q6, .inl (cI, 12, .inl fun _ => 0)), (q7, .inl (cI, 25, .inl fun _ => 0)), (q8, .inl (cI, 4, .inl fun _ => 0)), (q9, .inl (cI, 4, .inl fun _ => 0))] H := hP
  have hD : va_D A [(h0, .inr (7, [.int 0, .int 0, .ref q1, .ref q2, .ref q3, .ref q4, .ref q5, .ref q6, .int 0, .int 0, .ref q7, .ref q8, .null, .int 0, .int 0, .int 0])), (q1, .inl (cI, 25, .inl fun _ => 0)), (q2, .inl (cI, 25, .inl fun _ => 0)), (q3, .inl (cI, 25, .inl fun _ => 0)), (q4, .inl (cI, 25, .inl fun _ => 0)), (q5, .inl (cI, 12, .inl fun _ => 0)), (q6, .inl (cI, 12, .inl fun _ => 0)), (q7, .inl (cI, 25, .inl fun _ => 0)), (q8, .inl (cI, 4, .inl fun _ => 0)), (q9, .inl (cI, 4, .inl fun _ => 0))] := hD
  refine W.widen (k := 9) (n := 157) (by omega) (by omega) ?_
  refine va_putF (D := D) (ci := 7) (v := .ref q9) (ty := .array .int) (C := "RowImproverModel") (T := rz_F7) (N := 16) hx hb hts (rz_clw_of (ci := 7) rfl) (rz_fty 7) (rz_cty_of (ci := 7) rfl) (rz_cnm_of (ci := 7) rfl) hown hK hP hD hS 0 rfl rfl 12 (by decide) (hts _ rk_w643) (fun _ h9 => h9) rfl hin rfl (by decide +kernel) rfl rfl (Nat.le_of_ble_eq_true rfl) rk_d7_71 (fun H locs hP hD hS => ?_)
  have hP : va_P D rz_cl [(h0, .inr (7, [.int 0, .int 0, .ref q1, .ref q2, .ref q3, .ref q4, .ref q5, .ref q6, .int 0, .int 0, .ref q7, .ref q8, .ref q9, .int 0, .int 0, .int 0])), (q1, .inl (cI, 25, .inl fun _ => 0)), (q2, .inl (cI, 25, .inl fun _ => 0)), (q3, .inl (cI, 25, .inl fun _ => 0)), (q4, .inl (cI, 25, .inl fun _ => 0)), (q5, .inl (cI, 12, .inl fun _ => 0)), (q6, .inl (cI, 12, .inl fun _ => 0)), (q7, .inl (cI, 25, .inl fun _ => 0)), (q8, .inl (cI, 4, .inl fun _ => 0)), (q9, .inl (cI, 4, .inl fun _ => 0))] H := hP
  have hD : va_D A [(h0, .inr (7, [.int 0, .int 0, .ref q1, .ref q2, .ref q3, .ref q4, .ref q5, .ref q6, .int 0, .int 0, .ref q7, .ref q8, .ref q9, .int 0, .int 0, .int 0])), (q1, .inl (cI, 25, .inl fun _ => 0)), (q2, .inl (cI, 25, .inl fun _ => 0)), (q3, .inl (cI, 25, .inl fun _ => 0)), (q4, .inl (cI, 25, .inl fun _ => 0)), (q5, .inl (cI, 12, .inl fun _ => 0)), (q6, .inl (cI, 12, .inl fun _ => 0)), (q7, .inl (cI, 25, .inl fun _ => 0)), (q8, .inl (cI, 4, .inl fun _ => 0)), (q9, .inl (cI, 4, .inl fun _ => 0))] := hD
  exact W.vret hx hb hr (fun t ht hW => ⟨⟨(), rfl, trivial, q1, q2, q3, q4, q5, q6, q7, q8, q9, by rw [ht]; exact hP, hD⟩, hS.F ht⟩) hS.2.2 rk_d7_74
theorem rk_w109 : (Jvm.Cond.code ⟨"RowImprover$Prover", "<init>", "()V"⟩ prog_7_method_1_code (1 : Nat) (Option.none : Option Jvm.ClassFile.FieldType)) ∈ rz_tw := rz_use (List.mem_of_getElem? (i := 109) (by decide +kernel)) rfl
theorem rk_w110 : (Jvm.Cond.methodLink "RowImprover$Prover" (1 : Nat) Lib.objectInit) ∈ rz_tw := rz_use (List.mem_of_getElem? (i := 110) (by decide +kernel)) rfl
theorem rk_w111 : (Jvm.Cond.classLink "RowImprover$Prover" (7 : Nat) "RowImprover$Row") ∈ rz_tw := rz_use (List.mem_of_getElem? (i := 111) (by decide +kernel)) rfl
theorem rk_w112 : (Jvm.Cond.instantiable "RowImprover$Row" (2 : Nat)) ∈ rz_tw := rz_use (List.mem_of_getElem? (i := 112) (by decide +kernel)) rfl
theorem rk_w33 : (Jvm.Cond.initialized "RowImprover$Row") ∈ rz_tw := rz_use (List.mem_of_getElem? (i := 33) (by decide +kernel)) rfl
theorem rk_w113 : (Jvm.Cond.methodLinkNest "RowImprover$Prover" (9 : Nat) ⟨"RowImprover$Row", "<init>", "()V"⟩ "RowImprover") ∈ lw_tbl := List.mem_of_getElem? (i := 113) (by decide +kernel)
theorem rk_w114 : (Jvm.Cond.instanceMethod ⟨"RowImprover$Row", "<init>", "()V"⟩) ∈ rz_tw := rz_use (List.mem_of_getElem? (i := 114) (by decide +kernel)) rfl
theorem rk_w124 : (Jvm.Cond.fieldLink "RowImprover$Prover" (10 : Nat) "RowImprover$Prover" "one" "LRowImprover$Row;") ∈ rz_tw := rz_use (List.mem_of_getElem? (i := 124) (by decide +kernel)) rfl
theorem rk_w125 : (Jvm.Cond.fieldLink "RowImprover$Prover" (16 : Nat) "RowImprover$Prover" "other" "LRowImprover$Row;") ∈ rz_tw := rz_use (List.mem_of_getElem? (i := 125) (by decide +kernel)) rfl
/-- a new RowImprover$Prover -/
def rk_y4 : MethodName := ⟨"RowImprover$Prover", "<init>", "()V"⟩
theorem rk_d4_0 : decode prog_7_method_1_code 0 = .ok (.aload_n 0, 1) := by decide +kernel
theorem rk_d4_1 : decode prog_7_method_1_code 1 = .ok (.invokespecial 1, 3) := by decide +kernel
theorem rk_d4_4 : decode prog_7_method_1_code 4 = .ok (.aload_n 0, 1) := by decide +kernel
theorem rk_d4_5 : decode prog_7_method_1_code 5 = .ok (.new 7, 3) := by decide +kernel
theorem rk_d4_8 : decode prog_7_method_1_code 8 = .ok (.dup, 1) := by decide +kernel
theorem rk_d4_9 : decode prog_7_method_1_code 9 = .ok (.invokespecial 9, 3) := by decide +kernel
theorem rk_d4_12 : decode prog_7_method_1_code 12 = .ok (.putfield 10, 3) := by decide +kernel
theorem rk_d4_15 : decode prog_7_method_1_code 15 = .ok (.aload_n 0, 1) := by decide +kernel
theorem rk_d4_16 : decode prog_7_method_1_code 16 = .ok (.new 7, 3) := by decide +kernel
theorem rk_d4_19 : decode prog_7_method_1_code 19 = .ok (.dup, 1) := by decide +kernel
theorem rk_d4_20 : decode prog_7_method_1_code 20 = .ok (.invokespecial 9, 3) := by decide +kernel
theorem rk_d4_23 : decode prog_7_method_1_code 23 = .ok (.putfield 16, 3) := by decide +kernel
theorem rk_d4_26 : decode prog_7_method_1_code 26 = .ok (.return_, 1) := by decide +kernel
set_option maxHeartbeats 4000000 in
set_option maxRecDepth 100000 in
theorem k_4 (l : Launch) (D : va_G) (cI cJ : ClassId) (h0 sz : Nat) : Met l rk_y4 (Cond.code rk_y4 prog_7_method_1_code 1 none :: rz_tw) ({ frames := 2, cells := 4, slots := 10, locals := 32 }) (rz_prc D cI cJ h0 sz [(h0, .inr (4, [.null, .null, .int 0]))]) (va_Qv (fun _ : Unit => True) (fun _ t => ∃ q1 q2 q3 q4 : Nat, va_P D rz_cl [(h0, .inr (4, [.ref q1, .ref q3, .int 0])), (q1, .inr (5, [.ref q2, .int 0])), (q2, .inl (cI, 3, .inl fun _ => 0)), (q3, .inr (5, [.ref q4, .int 0])), (q4, .inl (cI, 3, .inl fun _ => 0))] t.heap ∧ va_D (va_A [(h0, .inr (4, [.null, .null, .int 0]))] sz) [(h0, .inr (4, [.ref q1, .ref q3, .int 0])), (q1, .inr (5, [.ref q2, .int 0])), (q2, .inl (cI, 3, .inl fun _ => 0)), (q3, .inr (5, [.ref q4, .int 0])), (q4, .inl (cI, 3, .inl fun _ => 0))]) (va_A [(h0, .inr (4, [.null, .null, .int 0]))] sz)) 4 10 (va_A [(h0, .inr (4, [.null, .null, .int 0]))] sz) := by
  refine Met.ofW (cc := prog_7_method_1_code) (maxL := 1) (ret := none) (by decide) rfl ?_
  intro p e s m args below meth c s₁ B hml hv
  obtain ⟨rfl, hsz, hP, hK, hD0, hN⟩ := hv
  have hx := B.exec
  have hb := B.bytes
  have hr := B.returns
  have hts : ∀ w ∈ rz_tw, w.before ([.ref h0] : List Value).toArray s = true := fun w hw => atoms_spec (ws := Cond.code rk_y4 prog_7_method_1_code 1 none :: rz_tw) B.pre w (List.mem_cons_of_mem _ hw)
  have hown : s.vm.findClass "RowImprover$Prover" = some m.cls := findClass_of_methodNamed B.named
  have hlocks := B.notSynchronized
  have hin : meth.name = "<init>" := (name_of_methodNamed B.named B.method).1
  subst hsz
  have hD := hD0.self (sz := s.heap.size)
  generalize hAe : va_A [(h0, .inr (4, [.null, .null, .int 0]))] s.heap.size = A at hD ⊢
  have hA : ∀ q : Nat, s.heap.size ≤ q → A q := fun q h => by rw [← hAe]; exact Or.inr h
  have hS : va_S A s.heap s.heap [] := va_S.rf
  have hP : va_P D rz_cl [(h0, .inr (4, [.null, .null, .int 0]))] s.heap := hP
  have hl := lv_entry ([.ref h0]) (n := 1) (Nat.le_of_ble_eq_true rfl)
  rw [lg_entry_eq]
  generalize (lg_sl ([.ref h0]) ++ List.replicate (1 - (lg_sl ([.ref h0])).length) Slot.unset).toArray = ls at hl ⊢
  have hl : lv_has ls 1 [(0, .ref h0)] := hl
  refine lv_aload_n hx hb rk_d4_0 rfl (lv_at hl 0 rfl) ?_
  refine W.objInit hx hb hown (hts _ rk_w110) (hts _ rk_w54) (hts _ rk_w55) rfl (by rw [hml]; exact hl.1) rfl rk_d4_1 (Nat.le_of_ble_eq_true rfl) (Nat.le_of_ble_eq_true rfl) ?_
  refine W.eq (g2 := F0 m 4 ls []) rfl ?_
  refine lv_aload_n hx hb rk_d4_4 rfl (lv_at hl 0 rfl) ?_
  refine va_new (ci := 5) (fs := [.null, .int 0]) (C := "RowImprover$Row") (T := rz_F5) (N := 2) hx hb hts (rz_clw_of (ci := 5) rfl) (rz_fty 5) (rz_cty_of (ci := 5) rfl) hown (hts _ rk_w111) (hts _ rk_w112) (hts _ rk_w33) hK hP hD hS hA rfl (rz_df5) (show 0 + 1 ≤ 4 by decide) (show 0 + 2 ≤ 10 by decide) rk_d4_5 (fun q1 H hP hD hS => ?_)
  have hP : va_P D rz_cl [(h0, .inr (4, [.null, .null, .int 0])), (q1, .inr (5, [.null, .int 0]))] H := hP
  have hD : va_D A [(h0, .inr (4, [.null, .null, .int 0])), (q1, .inr (5, [.null, .int 0]))] := hD
  refine W.widen (k := 1) (n := 2) (by omega) (by omega) ?_
  refine lv_dup hx hb rk_d4_8 rfl ?_
  have hPc := hP.sub (ws' := [(q1, .inr (5, [.null, .int 0]))]) [1] rfl
  have hDc := hD.sub (ws' := [(q1, .inr (5, [.null, .int 0]))]) [1] (by decide) rfl
  have hFc := va_free (wc := [(q1, .inr (5, [.null, .int 0]))]) hD hS hA [1] rfl
  refine va_callv (va_runIN (As := []) (rest := [.ref q1, .ref h0]) ⟨hx, hb, hml, hown, hts⟩ (k_5 l D cI cJ q1 H.size) ⟨va_cnB 0 hts (rz_gi rk_w115) rfl rfl rfl (hN _ rk_w113 rfl) (hts _ rk_w33) (by decide +kernel) ⟨Nat.le_of_ble_eq_true rfl, Nat.le_of_ble_eq_true rfl⟩, rfl, hts _ rk_w114⟩ (rz_pre hPc hK hDc hN) rfl rfl hl.1 rfl (lv_room (Nat.le_of_ble_eq_true rfl)) rk_d4_9 ⟨(show 1 + 1 ≤ 4 by decide), (show 2 + 3 ≤ 10 by decide)⟩) hS (fun q _ h => hFc q h) hFc (fun u t H1 locs ht hvm _ hB hz1 hk1 hS => ?_)
  obtain ⟨q2, hP1, hD1⟩ := hB
  rw [ht] at hP1
  obtain ⟨hP, hD⟩ := va_join (wr := [(h0, .inr (4, [.null, .null, .int 0]))]) (w1 := [(q1, .inr (5, [.ref q2, .int 0])), (q2, .inl (cI, 3, .inl fun _ => 0))]) hP hD [1] [0] rfl rfl (by decide) (by decide) hk1 hFc hP1 hD1
  generalize H1 = H at hP hS ⊢
  have hP : va_P D rz_cl [(h0, .inr (4, [.null, .null, .int 0])), (q1, .inr (5, [.ref q2, .int 0])), (q2, .inl (cI, 3, .inl fun _ => 0))] H := hP
  have hD : va_D A [(h0, .inr (4, [.null, .null, .int 0])), (q1, .inr (5, [.ref q2, .int 0])), (q2, .inl (cI, 3, .inl fun _ => 0))] := hD
  refine W.widen (k := 2) (n := 5) (by omega) (by omega) ?_
  refine va_putF (D := D) (ci := 4) (v := .ref q1) (ty := .object "RowImprover$Row") (C := "RowImprover$Prover") (T := rz_F4) (N := 3) hx hb hts (rz_clw_of (ci := 4) rfl) (rz_fty 4) (rz_cty_of (ci := 4) rfl) (rz_cnm_of (ci := 4) rfl) hown hK hP hD hS 0 rfl rfl 0 (by decide) (hts _ rk_w124) (fun _ h9 => h9) rfl hin rfl (by decide +kernel) rfl rfl (Nat.le_of_ble_eq_true rfl) rk_d4_12 (fun H locs hP hD hS => ?_)
  have hP : va_P D rz_cl [(h0, .inr (4, [.ref q1, .null, .int 0])), (q1, .inr (5, [.ref q2, .int 0])), (q2, .inl (cI, 3, .inl fun _ => 0))] H := hP
  have hD : va_D A [(h0, .inr (4, [.ref q1, .null, .int 0])), (q1, .inr (5, [.ref q2, .int 0])), (q2, .inl (cI, 3, .inl fun _ => 0))] := hD
  refine lv_aload_n hx hb rk_d4_15 rfl (lv_at hl 0 rfl) ?_
  refine va_new (ci := 5) (fs := [.null, .int 0]) (C := "RowImprover$Row") (T := rz_F5) (N := 2) hx hb hts (rz_clw_of (ci := 5) rfl) (rz_fty 5) (rz_cty_of (ci := 5) rfl) hown (hts _ rk_w111) (hts _ rk_w112) (hts _ rk_w33) hK hP hD hS hA rfl (rz_df5) (show 2 + 1 ≤ 4 by decide) (show 5 + 2 ≤ 10 by decide) rk_d4_16 (fun q3 H hP hD hS => ?_)
  have hP : va_P D rz_cl [(h0, .inr (4, [.ref q1, .null, .int 0])), (q1, .inr (5, [.ref q2, .int 0])), (q2, .inl (cI, 3, .inl fun _ => 0)), (q3, .inr (5, [.null, .int 0]))] H := hP
  have hD : va_D A [(h0, .inr (4, [.ref q1, .null, .int 0])), (q1, .inr (5, [.ref q2, .int 0])), (q2, .inl (cI, 3, .inl fun _ => 0)), (q3, .inr (5, [.null, .int 0]))] := hD
  refine W.widen (k := 3) (n := 7) (by omega) (by omega) ?_
  refine lv_dup hx hb rk_d4_19 rfl ?_
  have hPc := hP.sub (ws' := [(q3, .inr (5, [.null, .int 0]))]) [3] rfl
  have hDc := hD.sub (ws' := [(q3, .inr (5, [.null, .int 0]))]) [3] (by decide) rfl
  have hFc := va_free (wc := [(q3, .inr (5, [.null, .int 0]))]) hD hS hA [3] rfl
  refine va_callv (va_runIN (As := []) (rest := [.ref q3, .ref h0]) ⟨hx, hb, hml, hown, hts⟩ (k_5 l D cI cJ q3 H.size) ⟨va_cnB 0 hts (rz_gi rk_w115) rfl rfl rfl (hN _ rk_w113 rfl) (hts _ rk_w33) (by decide +kernel) ⟨Nat.le_of_ble_eq_true rfl, Nat.le_of_ble_eq_true rfl⟩, rfl, hts _ rk_w114⟩ (rz_pre hPc hK hDc hN) rfl rfl hl.1 rfl (lv_room (Nat.le_of_ble_eq_true rfl)) rk_d4_20 ⟨(show 3 + 1 ≤ 4 by decide), (show 7 + 3 ≤ 10 by decide)⟩) hS (fun q _ h => hFc q h) hFc (fun u t H1 locs ht hvm _ hB hz1 hk1 hS => ?_)
  obtain ⟨q4, hP1, hD1⟩ := hB
  rw [ht] at hP1
  obtain ⟨hP, hD⟩ := va_join (wr := [(h0, .inr (4, [.ref q1, .null, .int 0])), (q1, .inr (5, [.ref q2, .int 0])), (q2, .inl (cI, 3, .inl fun _ => 0))]) (w1 := [(q3, .inr (5, [.ref q4, .int 0])), (q4, .inl (cI, 3, .inl fun _ => 0))]) hP hD [3] [0, 1, 2] rfl rfl (by decide) (by decide) hk1 hFc hP1 hD1
  generalize H1 = H at hP hS ⊢
  have hP : va_P D rz_cl [(h0, .inr (4, [.ref q1, .null, .int 0])), (q1, .inr (5, [.ref q2, .int 0])), (q2, .inl (cI, 3, .inl fun _ => 0)), (q3, .inr (5, [.ref q4, .int 0])), (q4, .inl (cI, 3, .inl fun _ => 0))] H := hP
  have hD : va_D A [(h0, .inr (4, [.ref q1, .null, .int 0])), (q1, .inr (5, [.ref q2, .int 0])), (q2, .inl (cI, 3, .inl fun _ => 0)), (q3, .inr (5, [.ref q4, .int 0])), (q4, .inl (cI, 3, .inl fun _ => 0))] := hD
  refine W.widen (k := 4) (n := 10) (by omega) (by omega) ?_
  refine va_putF (D := D) (ci := 4) (v := .ref q3) (ty := .object "RowImprover$Row") (C := "RowImprover$Prover") (T := rz_F4) (N := 3) hx hb hts (rz_clw_of (ci := 4) rfl) (rz_fty 4) (rz_cty_of (ci := 4) rfl) (rz_cnm_of (ci := 4) rfl) hown hK hP hD hS 0 rfl rfl 1 (by decide) (hts _ rk_w125) (fun _ h9 => h9) rfl hin rfl (by decide +kernel) rfl rfl (Nat.le_of_ble_eq_true rfl) rk_d4_23 (fun H locs hP hD hS => ?_)
  have hP : va_P D rz_cl [(h0, .inr (4, [.ref q1, .ref q3, .int 0])), (q1, .inr (5, [.ref q2, .int 0])), (q2, .inl (cI, 3, .inl fun _ => 0)), (q3, .inr (5, [.ref q4, .int 0])), (q4, .inl (cI, 3, .inl fun _ => 0))] H := hP
  have hD : va_D A [(h0, .inr (4, [.ref q1, .ref q3, .int 0])), (q1, .inr (5, [.ref q2, .int 0])), (q2, .inl (cI, 3, .inl fun _ => 0)), (q3, .inr (5, [.ref q4, .int 0])), (q4, .inl (cI, 3, .inl fun _ => 0))] := hD
  exact W.vret hx hb hr (fun t ht hW => ⟨⟨(), rfl, trivial, q1, q2, q3, q4, by rw [ht]; exact hP, hD⟩, hS.F ht⟩) hS.2.2 rk_d4_26
theorem rk_w138 : (Jvm.Cond.code ⟨"RowImprover$Improver", "<init>", "()V"⟩ prog_3_method_1_code (1 : Nat) (Option.none : Option Jvm.ClassFile.FieldType)) ∈ rz_tw := rz_use (List.mem_of_getElem? (i := 138) (by decide +kernel)) rfl
theorem rk_w139 : (Jvm.Cond.methodLink "RowImprover$Improver" (3 : Nat) Lib.objectInit) ∈ rz_tw := rz_use (List.mem_of_getElem? (i := 139) (by decide +kernel)) rfl
theorem rk_w140 : (Jvm.Cond.classLink "RowImprover$Improver" (9 : Nat) "RowImprover$Liveness") ∈ rz_tw := rz_use (List.mem_of_getElem? (i := 140) (by decide +kernel)) rfl
theorem rk_w96 : (Jvm.Cond.instantiable "RowImprover$Liveness" (1 : Nat)) ∈ rz_tw := rz_use (List.mem_of_getElem? (i := 96) (by decide +kernel)) rfl
theorem rk_w31 : (Jvm.Cond.initialized "RowImprover$Liveness") ∈ rz_tw := rz_use (List.mem_of_getElem? (i := 31) (by decide +kernel)) rfl
theorem rk_w141 : (Jvm.Cond.methodLinkNest "RowImprover$Improver" (11 : Nat) ⟨"RowImprover$Liveness", "<init>", "()V"⟩ "RowImprover") ∈ lw_tbl := List.mem_of_getElem? (i := 141) (by decide +kernel)
theorem rk_w98 : (Jvm.Cond.instanceMethod ⟨"RowImprover$Liveness", "<init>", "()V"⟩) ∈ rz_tw := rz_use (List.mem_of_getElem? (i := 98) (by decide +kernel)) rfl
theorem rk_w146 : (Jvm.Cond.fieldLink "RowImprover$Improver" (12 : Nat) "RowImprover$Improver" "liveness" "LRowImprover$Liveness;") ∈ rz_tw := rz_use (List.mem_of_getElem? (i := 146) (by decide +kernel)) rfl
theorem rk_w142 : (Jvm.Cond.classLink "RowImprover$Improver" (18 : Nat) "RowImprover$Prover") ∈ rz_tw := rz_use (List.mem_of_getElem? (i := 142) (by decide +kernel)) rfl
theorem rk_w106 : (Jvm.Cond.instantiable "RowImprover$Prover" (3 : Nat)) ∈ rz_tw := rz_use (List.mem_of_getElem? (i := 106) (by decide +kernel)) rfl
theorem rk_w32 : (Jvm.Cond.initialized "RowImprover$Prover") ∈ rz_tw := rz_use (List.mem_of_getElem? (i := 32) (by decide +kernel)) rfl
theorem rk_w143 : (Jvm.Cond.methodLinkNest "RowImprover$Improver" (20 : Nat) ⟨"RowImprover$Prover", "<init>", "()V"⟩ "RowImprover") ∈ lw_tbl := List.mem_of_getElem? (i := 143) (by decide +kernel)
theorem rk_w108 : (Jvm.Cond.instanceMethod ⟨"RowImprover$Prover", "<init>", "()V"⟩) ∈ rz_tw := rz_use (List.mem_of_getElem? (i := 108) (by decide +kernel)) rfl
theorem rk_w147 : (Jvm.Cond.fieldLink "RowImprover$Improver" (21 : Nat) "RowImprover$Improver" "prover" "LRowImprover$Prover;") ∈ rz_tw := rz_use (List.mem_of_getElem? (i := 147) (by decide +kernel)) rfl
theorem rk_w144 : (Jvm.Cond.classLink "RowImprover$Improver" (25 : Nat) "RowImprover$Row") ∈ rz_tw := rz_use (List.mem_of_getElem? (i := 144) (by decide +kernel)) rfl
theorem rk_w145 : (Jvm.Cond.methodLinkNest "RowImprover$Improver" (27 : Nat) ⟨"RowImprover$Row", "<init>", "()V"⟩ "RowImprover") ∈ lw_tbl := List.mem_of_getElem? (i := 145) (by decide +kernel)
theorem rk_w148 : (Jvm.Cond.fieldLink "RowImprover$Improver" (28 : Nat) "RowImprover$Improver" "row" "LRowImprover$Row;") ∈ rz_tw := rz_use (List.mem_of_getElem? (i := 148) (by decide +kernel)) rfl
theorem rk_w149 : (Jvm.Cond.fieldLink "RowImprover$Improver" (32 : Nat) "RowImprover$Improver" "candidate" "LRowImprover$Row;") ∈ rz_tw := rz_use (List.mem_of_getElem? (i := 149) (by decide +kernel)) rfl
/-- a new RowImprover$Improver -/
def rk_y6 : MethodName := ⟨"RowImprover$Improver", "<init>", "()V"⟩
theorem rk_d6_0 : decode prog_3_method_1_code 0 = .ok (.aload_n 0, 1) := by decide +kernel
theorem rk_d6_1 : decode prog_3_method_1_code 1 = .ok (.invokespecial 3, 3) := by decide +kernel
theorem rk_d6_4 : decode prog_3_method_1_code 4 = .ok (.aload_n 0, 1) := by decide +kernel
theorem rk_d6_5 : decode prog_3_method_1_code 5 = .ok (.new 9, 3) := by decide +kernel
theorem rk_d6_8 : decode prog_3_method_1_code 8 = .ok (.dup, 1) := by decide +kernel
theorem rk_d6_9 : decode prog_3_method_1_code 9 = .ok (.invokespecial 11, 3) := by decide +kernel
theorem rk_d6_12 : decode prog_3_method_1_code 12 = .ok (.putfield 12, 3) := by decide +kernel
theorem rk_d6_15 : decode prog_3_method_1_code 15 = .ok (.aload_n 0, 1) := by decide +kernel
theorem rk_d6_16 : decode prog_3_method_1_code 16 = .ok (.new 18, 3) := by decide +kernel
theorem rk_d6_19 : decode prog_3_method_1_code 19 = .ok (.dup, 1) := by decide +kernel
theorem rk_d6_20 : decode prog_3_method_1_code 20 = .ok (.invokespecial 20, 3) := by decide +kernel
theorem rk_d6_23 : decode prog_3_method_1_code 23 = .ok (.putfield 21, 3) := by decide +kernel
theorem rk_d6_26 : decode prog_3_method_1_code 26 = .ok (.aload_n 0, 1) := by decide +kernel
theorem rk_d6_27 : decode prog_3_method_1_code 27 = .ok (.new 25, 3) := by decide +kernel
theorem rk_d6_30 : decode prog_3_method_1_code 30 = .ok (.dup, 1) := by decide +kernel
theorem rk_d6_31 : decode prog_3_method_1_code 31 = .ok (.invokespecial 27, 3) := by decide +kernel
theorem rk_d6_34 : decode prog_3_method_1_code 34 = .ok (.putfield 28, 3) := by decide +kernel
theorem rk_d6_37 : decode prog_3_method_1_code 37 = .ok (.aload_n 0, 1) := by decide +kernel
theorem rk_d6_38 : decode prog_3_method_1_code 38 = .ok (.new 25, 3) := by decide +kernel
theorem rk_d6_41 : decode prog_3_method_1_code 41 = .ok (.dup, 1) := by decide +kernel
theorem rk_d6_42 : decode prog_3_method_1_code 42 = .ok (.invokespecial 27, 3) := by decide +kernel
theorem rk_d6_45 : decode prog_3_method_1_code 45 = .ok (.putfield 32, 3) := by decide +kernel
theorem rk_d6_48 : decode prog_3_method_1_code 48 = .ok (.return_, 1) := by decide +kernel
set_option maxHeartbeats 4000000 in
set_option maxRecDepth 100000 in
theorem k_6 (l : Launch) (D : va_G) (cI cJ : ClassId) (h0 sz : Nat) : Met l rk_y6 (Cond.code rk_y6 prog_3_method_1_code 1 none :: rz_tw) ({ frames := 3, cells := 11, slots := 49, locals := 52 }) (rz_prc D cI cJ h0 sz [(h0, .inr (6, [.null, .null, .null, .null, .int 0, .int 0, .int 0]))]) (va_Qv (fun _ : Unit => True) (fun _ t => ∃ q1 q2 q3 q4 q5 q6 q7 q8 q9 q10 q11 : Nat, va_P D rz_cl [(h0, .inr (6, [.ref q1, .ref q3, .ref q8, .ref q10, .int 0, .int 0, .int 0])), (q1, .inr (3, [.ref q2])), (q2, .inl (cI, 25, .inl fun _ => 0)), (q3, .inr (4, [.ref q4, .ref q6, .int 0])), (q4, .inr (5, [.ref q5, .int 0])), (q5, .inl (cI, 3, .inl fun _ => 0)), (q6, .inr (5, [.ref q7, .int 0])), (q7, .inl (cI, 3, .inl fun _ => 0)), (q8, .inr (5, [.ref q9, .int 0])), (q9, .inl (cI, 3, .inl fun _ => 0)), (q10, .inr (5, [.ref q11, .int 0])), (q11, .inl (cI, 3, .inl fun _ => 0))] t.heap ∧ va_D (va_A [(h0, .inr (6, [.null, .null, .null, .null, .int 0, .int 0, .int 0]))] sz) [(h0, .inr (6, [.ref q1, .ref q3, .ref q8, .ref q10, .int 0, .int 0, .int 0])), (q1, .inr (3, [.ref q2])), (q2, .inl (cI, 25, .inl fun _ => 0)), (q3, .inr (4, [.ref q4, .ref q6, .int 0])), (q4, .inr (5, [.ref q5, .int 0])), (q5, .inl (cI, 3, .inl fun _ => 0)), (q6, .inr (5, [.ref q7, .int 0])), (q7, .inl (cI, 3, .inl fun _ => 0)), (q8, .inr (5, [.ref q9, .int 0])), (q9, .inl (cI, 3, .inl fun _ => 0)), (q10, .inr (5, [.ref q11, .int 0])), (q11, .inl (cI, 3, .inl fun _ => 0))]) (va_A [(h0, .inr (6, [.null, .null, .null, .null, .int 0, .int 0, .int 0]))] sz)) 11 49 (va_A [(h0, .inr (6, [.null, .null, .null, .null, .int 0, .int 0, .int 0]))] sz) := by
  refine Met.ofW (cc := prog_3_method_1_code) (maxL := 1) (ret := none) (by decide) rfl ?_
  intro p e s m args below meth c s₁ B hml hv
  obtain ⟨rfl, hsz, hP, hK, hD0, hN⟩ := hv
  have hx := B.exec
  have hb := B.bytes
  have hr := B.returns
  have hts : ∀ w ∈ rz_tw, w.before ([.ref h0] : List Value).toArray s = true := fun w hw => atoms_spec (ws := Cond.code rk_y6 prog_3_method_1_code 1 none :: rz_tw) B.pre w (List.mem_cons_of_mem _ hw)
  have hown : s.vm.findClass "RowImprover$Improver" = some m.cls := findClass_of_methodNamed B.named
  have hlocks := B.notSynchronized
  have hin : meth.name = "<init>" := (name_of_methodNamed B.named B.method).1
  subst hsz
  have hD := hD0.self (sz := s.heap.size)
  generalize hAe : va_A [(h0, .inr (6, [.null, .null, .null, .null, .int 0, .int 0, .int 0]))] s.heap.size = A at hD ⊢
  have hA : ∀ q : Nat, s.heap.size ≤ q → A q := fun q h => by rw [← hAe]; exact Or.inr h
  have hS : va_S A s.heap s.heap [] := va_S.rf
  have hP : va_P D rz_cl [(h0, .inr (6, [.null, .null, .null, .null, .int 0, .int 0, .int 0]))] s.heap := hP
  have hl := lv_entry ([.ref h0]) (n := 1) (Nat.le_of_ble_eq_true rfl)
  rw [lg_entry_eq]
  generalize (lg_sl ([.ref h0]) ++ List.replicate (1 - (lg_sl ([.ref h0])).length) Slot.unset).toArray = ls at hl ⊢
  have hl : lv_has ls 1 [(0, .ref h0)] := hl
  refine lv_aload_n hx hb rk_d6_0 rfl (lv_at hl 0 rfl) ?_
  refine W.objInit hx hb hown (hts _ rk_w139) (hts _ rk_w54) (hts _ rk_w55) rfl (by rw [hml]; exact hl.1) rfl rk_d6_1 (Nat.le_of_ble_eq_true rfl) (Nat.le_of_ble_eq_true rfl) ?_
  refine W.eq (g2 := F0 m 4 ls []) rfl ?_
  refine lv_aload_n hx hb rk_d6_4 rfl (lv_at hl 0 rfl) ?_
  refine va_new (ci := 3) (fs := [.null]) (C := "RowImprover$Liveness") (T := rz_F3) (N := 1) hx hb hts (rz_clw_of (ci := 3) rfl) (rz_fty 3) (rz_cty_of (ci := 3) rfl) hown (hts _ rk_w140) (hts _ rk_w96) (hts _ rk_w31) hK hP hD hS hA rfl (rz_df3) (show 0 + 1 ≤ 11 by decide) (show 0 + 1 ≤ 49 by decide) rk_d6_5 (fun q1 H hP hD hS => ?_)
  have hP : va_P D rz_cl [(h0, .inr (6, [.null, .null, .null, .null, .int 0, .int 0, .int 0])), (q1, .inr (3, [.null]))] H := hP
  have hD : va_D A [(h0, .inr (6, [.null, .null, .null, .null, .int 0, .int 0, .int 0])), (q1, .inr (3, [.null]))] := hD
  refine W.widen (k := 1) (n := 1) (by omega) (by omega) ?_
  refine lv_dup hx hb rk_d6_8 rfl ?_
  have hPc := hP.sub (ws' := [(q1, .inr (3, [.null]))]) [1] rfl
  have hDc := hD.sub (ws' := [(q1, .inr (3, [.null]))]) [1] (by decide) rfl
  have hFc := va_free (wc := [(q1, .inr (3, [.null]))]) hD hS hA [1] rfl
  refine va_callv (va_runIN (As := []) (rest := [.ref q1, .ref h0]) ⟨hx, hb, hml, hown, hts⟩ (k_3 l D cI cJ q1 H.size) ⟨va_cnB 0 hts (rz_gi rk_w99) rfl rfl rfl (hN _ rk_w141 rfl) (hts _ rk_w31) (by decide +kernel) ⟨Nat.le_of_ble_eq_true rfl, Nat.le_of_ble_eq_true rfl⟩, rfl, hts _ rk_w98⟩ (rz_pre hPc hK hDc hN) rfl rfl hl.1 rfl (lv_room (Nat.le_of_ble_eq_true rfl)) rk_d6_9 ⟨(show 1 + 1 ≤ 11 by decide), (show 1 + 25 ≤ 49 by decide)⟩) hS (fun q _ h => hFc q h) hFc (fun u t H1 locs ht hvm _ hB hz1 hk1 hS => ?_)
  obtain ⟨q2, hP1, hD1⟩ := hB
  rw [ht] at hP1
  obtain ⟨hP, hD⟩ := va_join (wr := [(h0, .inr (6, [.null, .null, .null, .null, .int 0, .int 0, .int 0]))]) (w1 := [(q1, .inr (3, [.ref q2])), (q2, .inl (cI, 25, .inl fun _ => 0))]) hP hD [1] [0] rfl rfl (by decide) (by decide) hk1 hFc hP1 hD1
  generalize H1 = H at hP hS ⊢
  have hP : va_P D rz_cl [(h0, .inr (6, [.null, .null, .null, .null, .int 0, .int 0, .int 0])), (q1, .inr (3, [.ref q2])), (q2, .inl (cI, 25, .inl fun _ => 0))] H := hP
  have hD : va_D A [(h0, .inr (6, [.null, .null, .null, .null, .int 0, .int 0, .int 0])), (q1, .inr (3, [.ref q2])), (q2, .inl (cI, 25, .inl fun _ => 0))] := hD
  refine W.widen (k := 2) (n := 26) (by omega) (by omega) ?_
  refine va_putF (D := D) (ci := 6) (v := .ref q1) (ty := .object "RowImprover$Liveness") (C := "RowImprover$Improver") (T := rz_F6) (N := 7) hx hb hts (rz_clw_of (ci := 6) rfl) (rz_fty 6) (rz_cty_of (ci := 6) rfl) (rz_cnm_of (ci := 6) rfl) hown hK hP hD hS 0 rfl rfl 0 (by decide) (hts _ rk_w146) (fun _ h9 => h9) rfl hin rfl (by decide +kernel) rfl rfl (Nat.le_of_ble_eq_true rfl) rk_d6_12 (fun H locs hP hD hS => ?_)
  have hP : va_P D rz_cl [(h0, .inr (6, [.ref q1, .null, .null, .null, .int 0, .int 0, .int 0])), (q1, .inr (3, [.ref q2])), (q2, .inl (cI, 25, .inl fun _ => 0))] H := hP
  have hD : va_D A [(h0, .inr (6, [.ref q1, .null, .null, .null, .int 0, .int 0, .int 0])), (q1, .inr (3, [.ref q2])), (q2, .inl (cI, 25, .inl fun _ => 0))] := hD
  refine lv_aload_n hx hb rk_d6_15 rfl (lv_at hl 0 rfl) ?_
  refine va_new (ci := 4) (fs := [.null, .null, .int 0]) (C := "RowImprover$Prover") (T := rz_F4) (N := 3) hx hb hts (rz_clw_of (ci := 4) rfl) (rz_fty 4) (rz_cty_of (ci := 4) rfl) hown (hts _ rk_w142) (hts _ rk_w106) (hts _ rk_w32) hK hP hD hS hA rfl (rz_df4) (show 2 + 1 ≤ 11 by decide) (show 26 + 3 ≤ 49 by decide) rk_d6_16 (fun q3 H hP hD hS => ?_)
  have hP : va_P D rz_cl [(h0, .inr (6, [.ref q1, .null, .null, .null, .int 0, .int 0, .int 0])), (q1, .inr (3, [.ref q2])), (q2, .inl (cI, 25, .inl fun _ => 0)), (q3, .inr (4, [.null, .null, .int 0]))] H := hP
  have hD : va_D A [(h0, .inr (6, [.ref q1, .null, .null, .null, .int 0, .int 0, .int 0])), (q1, .inr (3, [.ref q2])), (q2, .inl (cI, 25, .inl fun _ => 0)), (q3, .inr (4, [.null, .null, .int 0]))] := hD
  refine W.widen (k := 3) (n := 29) (by omega) (by omega) ?_
  refine lv_dup hx hb rk_d6_19 rfl ?_
  have hPc := hP.sub (ws' := [(q3, .inr (4, [.null, .null, .int 0]))]) [3] rfl
  have hDc := hD.sub (ws' := [(q3, .inr (4, [.null, .null, .int 0]))]) [3] (by decide) rfl
  have hFc := va_free (wc := [(q3, .inr (4, [.null, .null, .int 0]))]) hD hS hA [3] rfl
  refine va_callv (va_runIN (As := []) (rest := [.ref q3, .ref h0]) ⟨hx, hb, hml, hown, hts⟩ (k_4 l D cI cJ q3 H.size) ⟨va_cnB 0 hts (rz_gi rk_w109) rfl rfl rfl (hN _ rk_w143 rfl) (hts _ rk_w32) (by decide +kernel) ⟨Nat.le_of_ble_eq_true rfl, Nat.le_of_ble_eq_true rfl⟩, rfl, hts _ rk_w108⟩ (rz_pre hPc hK hDc hN) rfl rfl hl.1 rfl (lv_room (Nat.le_of_ble_eq_true rfl)) rk_d6_20 ⟨(show 3 + 4 ≤ 11 by decide), (show 29 + 10 ≤ 49 by decide)⟩) hS (fun q _ h => hFc q h) hFc (fun u t H1 locs ht hvm _ hB hz1 hk1 hS => ?_)
  obtain ⟨q4, q5, q6, q7, hP1, hD1⟩ := hB
  rw [ht] at hP1
  obtain ⟨hP, hD⟩ := va_join (wr := [(h0, .inr (6, [.ref q1, .null, .null, .null, .int 0, .int 0, .int 0])), (q1, .inr (3, [.ref q2])), (q2, .inl (cI, 25, .inl fun _ => 0))]) (w1 := [(q3, .inr (4, [.ref q4, .ref q6, .int 0])), (q4, .inr (5, [.ref q5, .int 0])), (q5, .inl (cI, 3, .inl fun _ => 0)), (q6, .inr (5, [.ref q7, .int 0])), (q7, .inl (cI, 3, .inl fun _ => 0))]) hP hD [3] [0, 1, 2] rfl rfl (by decide) (by decide) hk1 hFc hP1 hD1
  generalize H1 = H at hP hS ⊢
  have hP : va_P D rz_cl [(h0, .inr (6, [.ref q1, .null, .null, .null, .int 0, .int 0, .int 0])), (q1, .inr (3, [.ref q2])), (q2, .inl (cI, 25, .inl fun _ => 0)), (q3, .inr (4, [.ref q4, .ref q6, .int 0])), (q4, .inr (5, [.ref q5, .int 0])), (q5, .inl (cI, 3, .inl fun _ => 0)), (q6, .inr (5, [.ref q7, .int 0])), (q7, .inl (cI, 3, .inl fun _ => 0))] H := hP
  have hD : va_D A [(h0, .inr (6, [.ref q1, .null, .null, .null, .int 0, .int 0, .int 0])), (q1, .inr (3, [.ref q2])), (q2, .inl (cI, 25, .inl fun _ => 0)), (q3, .inr (4, [.ref q4, .ref q6, .int 0])), (q4, .inr (5, [.ref q5, .int 0])), (q5, .inl (cI, 3, .inl fun _ => 0)), (q6, .inr (5, [.ref q7, .int 0])), (q7, .inl (cI, 3, .inl fun _ => 0))] := hD
  refine W.widen (k := 7) (n := 39) (by omega) (by omega) ?_
  refine va_putF (D := D) (ci := 6) (v := .ref q3) (ty := .object "RowImprover$Prover") (C := "RowImprover$Improver") (T := rz_F6) (N := 7) hx hb hts (rz_clw_of (ci := 6) rfl) (rz_fty 6) (rz_cty_of (ci := 6) rfl) (rz_cnm_of (ci := 6) rfl) hown hK hP hD hS 0 rfl rfl 1 (by decide) (hts _ rk_w147) (fun _ h9 => h9) rfl hin rfl (by decide +kernel) rfl rfl (Nat.le_of_ble_eq_true rfl) rk_d6_23 (fun H locs hP hD hS => ?_)
  have hP : va_P D rz_cl [(h0, .inr (6, [.ref q1, .ref q3, .null, .null, .int 0, .int 0, .int 0])), (q1, .inr (3, [.ref q2])), (q2, .inl (cI, 25, .inl fun _ => 0)), (q3, .inr (4, [.ref q4, .ref q6, .int 0])), (q4, .inr (5, [.ref q5, .int 0])), (q5, .inl (cI, 3, .inl fun _ => 0)), (q6, .inr (5, [.ref q7, .int 0])), (q7, .inl (cI, 3, .inl fun _ => 0))] H := hP
  have hD : va_D A [(h0, .inr (6, [.ref q1, .ref q3, .null, .null, .int 0, .int 0, .int 0])), (q1, .inr (3, [.ref q2])), (q2, .inl (cI, 25, .inl fun _ => 0)), (q3, .inr (4, [.ref q4, .ref q6, .int 0])), (q4, .inr (5, [.ref q5, .int 0])), (q5, .inl (cI, 3, .inl fun _ => 0)), (q6, .inr (5, [.ref q7, .int 0])), (q7, .inl (cI, 3, .inl fun _ => 0))] := hD
  refine lv_aload_n hx hb rk_d6_26 rfl (lv_at hl 0 rfl) ?_
  refine va_new (ci := 5) (fs := [.null, .int 0]) (C := "RowImprover$Row") (T := rz_F5) (N := 2) hx hb hts (rz_clw_of (ci := 5) rfl) (rz_fty 5) (rz_cty_of (ci := 5) rfl) hown (hts _ rk_w144) (hts _ rk_w112) (hts _ rk_w33) hK hP hD hS hA rfl (rz_df5) (show 7 + 1 ≤ 11 by decide) (show 39 + 2 ≤ 49 by decide) rk_d6_27 (fun q8 H hP hD hS => ?_)
  have hP : va_P D rz_cl [(h0, .inr (6, [.ref q1, .ref q3, .null, .null, .int 0, .int 0, .int 0])), (q1, .inr (3, [.ref q2])), (q2, .inl (cI, 25, .inl fun _ => 0)), (q3, .inr (4, [.ref q4, .ref q6, .int 0])), (q4, .inr (5, [.ref q5, .int 0])), (q5, .inl (cI, 3, .inl fun _ => 0)), (q6, .inr (5, [.ref q7, .int 0])), (q7, .inl (cI, 3, .inl fun _ => 0)), (q8, .inr (5, [.null, .int 0]))] H := hP
  have hD : va_D A [(h0, .inr (6, [.ref q1, .ref q3, .null, .null, .int 0, .int 0, .int 0])), (q1, .inr (3, [.ref q2])), (q2, .inl (cI, 25, .inl fun _ => 0)), (q3, .inr (4, [.ref q4, .ref q6, .int 0])), (q4, .inr (5, [.ref q5, .int 0])), (q5, .inl (cI, 3, .inl fun _ => 0)), (q6, .inr (5, [.ref q7, .int 0])), (q7, .inl (cI, 3, .inl fun _ => 0)), (q8, .inr (5, [.null, .int 0]))] := hD
  refine W.widen (k := 8) (n := 41) (by omega) (by omega) ?_
  refine lv_dup hx hb rk_d6_30 rfl ?_
  have hPc := hP.sub (ws' := [(q8, .inr (5, [.null, .int 0]))]) [8] rfl
  have hDc := hD.sub (ws' := [(q8, .inr (5, [.null, .int 0]))]) [8] (by decide) rfl
  have hFc := va_free (wc := [(q8, .inr (5, [.null, .int 0]))]) hD hS hA [8] rfl
  refine va_callv (va_runIN (As := []) (rest := [.ref q8, .ref h0]) ⟨hx, hb, hml, hown, hts⟩ (k_5 l D cI cJ q8 H.size) ⟨va_cnB 0 hts (rz_gi rk_w115) rfl rfl rfl (hN _ rk_w145 rfl) (hts _ rk_w33) (by decide +kernel) ⟨Nat.le_of_ble_eq_true rfl, Nat.le_of_ble_eq_true rfl⟩, rfl, hts _ rk_w114⟩ (rz_pre hPc hK hDc hN) rfl rfl hl.1 rfl (lv_room (Nat.le_of_ble_eq_true rfl)) rk_d6_31 ⟨(show 8 + 1 ≤ 11 by decide), (show 41 + 3 ≤ 49 by decide)⟩) hS (fun q _ h => hFc q h) hFc (fun u t H1 locs ht hvm _ hB hz1 hk1 hS => ?_)
  obtain ⟨q9, hP1, hD1⟩ := hB
  rw [ht] at hP1
  obtain ⟨hP, hD⟩ := va_join (wr := [(h0, .inr (6, [.ref q1, .ref q3, .null, .null, .int 0, .int 0, .int 0])), (q1, .inr (3, [.ref q2])), (q2, .inl (cI, 25, .inl fun _ => 0)), (q3, .inr (4, [.ref q4, .ref q6, .int 0])), (q4, .inr (5, [.ref q5, .int 0])), (q5, .inl (cI, 3, .inl fun _ => 0)), (q6, .inr (5, [.ref q7, .int 0])), (q7, .inl (cI, 3, .inl fun _ => 0))]) (w1 := [(q8, .inr (5, [.ref q9, .int 0])), (q9, .inl (cI, 3, .inl fun _ => 0))]) hP hD [8] [0, 1, 2, 3, 4, 5, 6, 7] rfl rfl (by decide) (by decide) hk1 hFc hP1 hD1
  generalize H1 = H at hP hS ⊢
  have hP : va_P D rz_cl [(h0, .inr (6, [.ref q1, .ref q3, .null, .null, .int 0, .int 0, .int 0])), (q1, .inr (3, [.ref q2])), (q2, .inl (cI, 25, .inl fun _ => 0)), (q3, .inr (4, [.ref q4, .ref q6, .int 0])), (q4, .inr (5, [.ref q5, .int 0])), (q5, .inl (cI, 3, .inl fun _ => 0)), (q6, .inr (5, [.ref q7, .int 0])), (q7, .inl (cI, 3, .inl fun _ => 0)), (q8, .inr (5, [.ref q9, .int 0])), (q9, .inl (cI, 3, .inl fun _ => 0))] H := hP
  have hD : va_D A [(h0, .inr (6, [.ref q1, .ref q3, .null, .null, .int 0, .int 0, .int 0])), (q1, .inr (3, [.ref q2])), (q2, .inl (cI, 25, .inl fun _ => 0)), (q3, .inr (4, [.ref q4, .ref q6, .int 0])), (q4, .inr (5, [.ref q5, .int 0])), (q5, .inl (cI, 3, .inl fun _ => 0)), (q6, .inr (5, [.ref q7, .int 0])), (q7, .inl (cI, 3, .inl fun _ => 0)), (q8, .inr (5, [.ref q9, .int 0])), (q9, .inl (cI, 3, .inl fun _ => 0))] := hD
  refine W.widen (k := 9) (n := 44) (by omega) (by omega) ?_
  refine va_putF (D := D) (ci := 6) (v := .ref q8) (ty := .object "RowImprover$Row") (C := "RowImprover$Improver") (T := rz_F6) (N := 7) hx hb hts (rz_clw_of (ci := 6) rfl) (rz_fty 6) (rz_cty_of (ci := 6) rfl) (rz_cnm_of (ci := 6) rfl) hown hK hP hD hS 0 rfl rfl 2 (by decide) (hts _ rk_w148) (fun _ h9 => h9) rfl hin rfl (by decide +kernel) rfl rfl (Nat.le_of_ble_eq_true rfl) rk_d6_34 (fun H locs hP hD hS => ?_)
  have hP : va_P D rz_cl [(h0, .inr (6, [.ref q1, .ref q3, .ref q8, .null, .int 0, .int 0, .int 0])), (q1, .inr (3, [.ref q2])), (q2, .inl (cI, 25, .inl fun _ => 0)), (q3, .inr (4, [.ref q4, .ref q6, .int 0])), (q4, .inr (5, [.ref q5, .int 0])), (q5, .inl (cI, 3, .inl fun _ => 0)), (q6, .inr (5, [.ref q7, .int 0])), (q7, .inl (cI, 3, .inl fun _ => 0)), (q8, .inr (5, [.ref q9, .int 0])), (q9, .inl (cI, 3, .inl fun _ => 0))] H := hP
  have hD : va_D A [(h0, .inr (6, [.ref q1, .ref q3, .ref q8, .null, .int 0, .int 0, .int 0])), (q1, .inr (3, [.ref q2])), (q2, .inl (cI, 25, .inl fun _ => 0)), (q3, .inr (4, [.ref q4, .ref q6, .int 0])), (q4, .inr (5, [.ref q5, .int 0])), (q5, .inl (cI, 3, .inl fun _ => 0)), (q6, .inr (5, [.ref q7, .int 0])), (q7, .inl (cI, 3, .inl fun _ => 0)), (q8, .inr (5, [.ref q9, .int 0])), (q9, .inl (cI, 3, .inl fun _ => 0))] := hD
  refine lv_aload_n hx hb rk_d6_37 rfl (lv_at hl 0 rfl) ?_
  refine va_new (ci := 5) (fs := [.null, .int 0]) (C := "RowImprover$Row") (T := rz_F5) (N := 2) hx hb hts (rz_clw_of (ci := 5) rfl) (rz_fty 5) (rz_cty_of (ci := 5) rfl) hown (hts _ rk_w144) (hts _ rk_w112) (hts _ rk_w33) hK hP hD hS hA rfl (rz_df5) (show 9 + 1 ≤ 11 by decide) (show 44 + 2 ≤ 49 by decide) rk_d6_38 (fun q10 H hP hD hS => ?_)
  have hP : va_P D rz_cl [(h0, .inr (6, [.ref q1, .ref q3, .ref q8, .null, .int 0, .int 0, .int 0])), (q1, .inr (3, [.ref q2])), (q2, .inl (cI, 25, .inl fun _ => 0)), (q3, .inr (4, [.ref q4, .ref q6, .int 0])), (q4, .inr (5, [.ref q5, .int 0])), (q5, .inl (cI, 3, .inl fun _ => 0)), (q6, .inr (5, [.ref q7, .int 0])), (q7, .inl (cI, 3, .inl fun _ => 0)), (q8, .inr (5, [.ref q9, .int 0])), (q9, .inl (cI, 3, .inl fun _ => 0)), (q10, .inr (5, [.null, .int 0]))] H := hP
  have hD : va_D A [(h0, .inr (6, [.ref q1, .ref q3, .ref q8, .null, .int 0, .int 0, .int 0])), (q1, .inr (3, [.ref q2])), (q2, .inl (cI, 25, .inl fun _ => 0)), (q3, .inr (4, [.ref q4, .ref q6, .int 0])), (q4, .inr (5, [.ref q5, .int 0])), (q5, .inl (cI, 3, .inl fun _ => 0)), (q6, .inr (5, [.ref q7, .int 0])), (q7, .inl (cI, 3, .inl fun _ => 0)), (q8, .inr (5, [.ref q9, .int 0])), (q9, .inl (cI, 3, .inl fun _ => 0)), (q10, .inr (5, [.null, .int 0]))] := hD
  refine W.widen (k := 10) (n := 46) (by omega) (by omega) ?_
  refine lv_dup hx hb rk_d6_41 rfl ?_
  have hPc := hP.sub (ws' := [(q10, .inr (5, [.null, .int 0]))]) [10] rfl
  have hDc := hD.sub (ws' := [(q10, .inr (5, [.null, .int 0]))]) [10] (by decide) rfl
  have hFc := va_free (wc := [(q10, .inr (5, [.null, .int 0]))]) hD hS hA [10] rfl
  refine va_callv (va_runIN (As := []) (rest := [.ref q10, .ref h0]) ⟨hx, hb, hml, hown, hts⟩ (k_5 l D cI cJ q10 H.size) ⟨va_cnB 0 hts (rz_gi rk_w115) rfl rfl rfl (hN _ rk_w145 rfl) (hts _ rk_w33) (by decide +kernel) ⟨Nat.le_of_ble_eq_true rfl, Nat.le_of_ble_eq_true rfl⟩, rfl, hts _ rk_w114⟩ (rz_pre hPc hK hDc hN) rfl rfl hl.1 rfl (lv_room (Nat.le_of_ble_eq_true rfl)) rk_d6_42 ⟨(show 10 + 1 ≤ 11 by decide), (show 46 + 3 ≤ 49 by decide)⟩) hS (fun q _ h => hFc q h) hFc (fun u t H1 locs ht hvm _ hB hz1 hk1 hS => ?_)
  obtain ⟨q11, hP1, hD1⟩ := hB
  rw [ht] at hP1
  obtain ⟨hP, hD⟩ := va_join (wr := [(h0, .inr (6, [.ref q1, .ref q3, .ref q8, .null, .int 0, .int 0, .int 0])), (q1, .inr (3, [.ref q2])), (q2, .inl (cI, 25, .inl fun _ => 0)), (q3, .inr (4, [.ref q4, .ref q6, .int 0])), (q4, .inr (5, [.ref q5, .int 0])), (q5, .inl (cI, 3, .inl fun _ => 0)), (q6, .inr (5, [.ref q7, .int 0])), (q7, .inl (cI, 3, .inl fun _ => 0)), (q8, .inr (5, [.ref q9, .int 0])), (q9, .inl (cI, 3, .inl fun _ => 0))]) (w1 := [(q10, .inr (5, [.ref q11, .int 0])), (q11, .inl (cI, 3, .inl fun _ => 0))]) hP hD [10] [0, 1, 2, 3, 4, 5, 6, 7, 8, 9] rfl rfl (by decide) (by decide) hk1 hFc hP1 hD1
  generalize H1 = H at hP hS ⊢
  have hP : va_P D rz_cl [(h0, .inr (6, [.ref q1, .ref q3, .ref q8, .null, .int 0, .int 0, .int 0])), (q1, .inr (3, [.ref q2])), (q2, .inl (cI, 25, .inl fun _ => 0)), (q3, .inr (4, [.ref q4, .ref q6, .int 0])), (q4, .inr (5, [.ref q5, .int 0])), (q5, .inl (cI, 3, .inl fun _ => 0)), (q6, .inr (5, [.ref q7, .int 0])), (q7, .inl (cI, 3, .inl fun _ => 0)), (q8, .inr (5, [.ref q9, .int 0])), (q9, .inl (cI, 3, .inl fun _ => 0)), (q10, .inr (5, [.ref q11, .int 0])), (q11, .inl (cI, 3, .inl fun _ => 0))] H := hP
  have hD : va_D A [(h0, .inr (6, [.ref q1, .ref q3, .ref q8, .null, .int 0, .int 0, .int 0])), (q1, .inr (3, [.ref q2])), (q2, .inl (cI, 25, .inl fun _ => 0)), (q3, .inr (4, [.ref q4, .ref q6, .int 0])), (q4, .inr (5, [.ref q5, .int 0])), (q5, .inl (cI, 3, .inl fun _ => 0)), (q6, .inr (5, [.ref q7, .int 0])), (q7, .inl (cI, 3, .inl fun _ => 0)), (q8, .inr (5, [.ref q9, .int 0])), (q9, .inl (cI, 3, .inl fun _ => 0)), (q10, .inr (5, [.ref q11, .int 0])), (q11, .inl (cI, 3, .inl fun _ => 0))] := hD
  refine W.widen (k := 11) (n := 49) (by omega) (by omega) ?_
  refine va_putF (D := D) (ci := 6) (v := .ref q10) (ty := .object "RowImprover$Row") (C := "RowImprover$Improver") (T := rz_F6) (N := 7) hx hb hts (rz_clw_of (ci := 6) rfl) (rz_fty 6) (rz_cty_of (ci := 6) rfl) (rz_cnm_of (ci := 6) rfl) hown hK hP hD hS 0 rfl rfl 3 (by decide) (hts _ rk_w149) (fun _ h9 => h9) rfl hin rfl (by decide +kernel) rfl rfl (Nat.le_of_ble_eq_true rfl) rk_d6_45 (fun H locs hP hD hS => ?_)
  have hP : va_P D rz_cl [(h0, .inr (6, [.ref q1, .ref q3, .ref q8, .ref q10, .int 0, .int 0, .int 0])), (q1, .inr (3, [.ref q2])), (q2, .inl (cI, 25, .inl fun _ => 0)), (q3, .inr (4, [.ref q4, .ref q6, .int 0])), (q4, .inr (5, [.ref q5, .int 0])), (q5, .inl (cI, 3, .inl fun _ => 0)), (q6, .inr (5, [.ref q7, .int 0])), (q7, .inl (cI, 3, .inl fun _ => 0)), (q8, .inr (5, [.ref q9, .int 0])), (q9, .inl (cI, 3, .inl fun _ => 0)), (q10, .inr (5, [.ref q11, .int 0])), (q11, .inl (cI, 3, .inl fun _ => 0))] H := hP
  have hD : va_D A [(h0, .inr (6, [.ref q1, .ref q3, .ref q8, .ref q10, .int 0, .int 0, .int 0])), (q1, .inr (3, [.ref q2])), (q2, .inl (cI, 25, .inl fun _ => 0)), (q3, .inr (4, [.ref q4, .ref q6, .int 0])), (q4, .inr (5, [.ref q5, .int 0])), (q5, .inl (cI, 3, .inl fun _ => 0)), (q6, .inr (5, [.ref q7, .int 0])), (q7, .inl (cI, 3, .inl fun _ => 0)), (q8, .inr (5, [.ref q9, .int 0])), (q9, .inl (cI, 3, .inl fun _ => 0)), (q10, .inr (5, [.ref q11, .int 0])), (q11, .inl (cI, 3, .inl fun _ => 0))] := hD
  exact W.vret hx hb hr (fun t ht hW => ⟨⟨(), rfl, trivial, q1, q2, q3, q4, q5, q6, q7, q8, q9, q10, q11, by rw [ht]; exact hP, hD⟩, hS.F ht⟩) hS.2.2 rk_d6_48
theorem rk_w52 : (Jvm.Cond.code ⟨"RowImprover", "<init>", "()V"⟩ prog_1_method_1_code (1 : Nat) (Option.none : Option Jvm.ClassFile.FieldType)) ∈ rz_tw := rz_use (List.mem_of_getElem? (i := 52) (by decide +kernel)) rfl
theorem rk_w53 : (Jvm.Cond.methodLink "RowImprover" (1 : Nat) Lib.objectInit) ∈ rz_tw := rz_use (List.mem_of_getElem? (i := 53) (by decide +kernel)) rfl
theorem rk_w56 : (Jvm.Cond.classLink "RowImprover" (7 : Nat) "RowImprover$Program") ∈ rz_tw := rz_use (List.mem_of_getElem? (i := 56) (by decide +kernel)) rfl
theorem rk_w57 : (Jvm.Cond.instantiable "RowImprover$Program" (2 : Nat)) ∈ rz_tw := rz_use (List.mem_of_getElem? (i := 57) (by decide +kernel)) rfl
theorem rk_w29 : (Jvm.Cond.initialized "RowImprover$Program") ∈ rz_tw := rz_use (List.mem_of_getElem? (i := 29) (by decide +kernel)) rfl
theorem rk_w58 : (Jvm.Cond.methodLinkNest "RowImprover" (9 : Nat) ⟨"RowImprover$Program", "<init>", "()V"⟩ "RowImprover") ∈ lw_tbl := List.mem_of_getElem? (i := 58) (by decide +kernel)
theorem rk_w59 : (Jvm.Cond.instanceMethod ⟨"RowImprover$Program", "<init>", "()V"⟩) ∈ rz_tw := rz_use (List.mem_of_getElem? (i := 59) (by decide +kernel)) rfl
theorem rk_w168 : (Jvm.Cond.fieldLink "RowImprover" (10 : Nat) "RowImprover" "program" "LRowImprover$Program;") ∈ rz_tw := rz_use (List.mem_of_getElem? (i := 168) (by decide +kernel)) rfl
theorem rk_w70 : (Jvm.Cond.classLink "RowImprover" (16 : Nat) "RowImprover$Machine") ∈ rz_tw := rz_use (List.mem_of_getElem? (i := 70) (by decide +kernel)) rfl
theorem rk_w71 : (Jvm.Cond.instantiable "RowImprover$Machine" (6 : Nat)) ∈ rz_tw := rz_use (List.mem_of_getElem? (i := 71) (by decide +kernel)) rfl
theorem rk_w30 : (Jvm.Cond.initialized "RowImprover$Machine") ∈ rz_tw := rz_use (List.mem_of_getElem? (i := 30) (by decide +kernel)) rfl
theorem rk_w72 : (Jvm.Cond.methodLinkNest "RowImprover" (18 : Nat) ⟨"RowImprover$Machine", "<init>", "()V"⟩ "RowImprover") ∈ lw_tbl := List.mem_of_getElem? (i := 72) (by decide +kernel)
theorem rk_w73 : (Jvm.Cond.instanceMethod ⟨"RowImprover$Machine", "<init>", "()V"⟩) ∈ rz_tw := rz_use (List.mem_of_getElem? (i := 73) (by decide +kernel)) rfl
theorem rk_w169 : (Jvm.Cond.fieldLink "RowImprover" (19 : Nat) "RowImprover" "machine" "LRowImprover$Machine;") ∈ rz_tw := rz_use (List.mem_of_getElem? (i := 169) (by decide +kernel)) rfl
theorem rk_w95 : (Jvm.Cond.classLink "RowImprover" (23 : Nat) "RowImprover$Liveness") ∈ rz_tw := rz_use (List.mem_of_getElem? (i := 95) (by decide +kernel)) rfl
theorem rk_w97 : (Jvm.Cond.methodLinkNest "RowImprover" (25 : Nat) ⟨"RowImprover$Liveness", "<init>", "()V"⟩ "RowImprover") ∈ lw_tbl := List.mem_of_getElem? (i := 97) (by decide +kernel)
theorem rk_w170 : (Jvm.Cond.fieldLink "RowImprover" (26 : Nat) "RowImprover" "liveness" "LRowImprover$Liveness;") ∈ rz_tw := rz_use (List.mem_of_getElem? (i := 170) (by decide +kernel)) rfl
theorem rk_w105 : (Jvm.Cond.classLink "RowImprover" (30 : Nat) "RowImprover$Prover") ∈ rz_tw := rz_use (List.mem_of_getElem? (i := 105) (by decide +kernel)) rfl
theorem rk_w107 : (Jvm.Cond.methodLinkNest "RowImprover" (32 : Nat) ⟨"RowImprover$Prover", "<init>", "()V"⟩ "RowImprover") ∈ lw_tbl := List.mem_of_getElem? (i := 107) (by decide +kernel)
theorem rk_w171 : (Jvm.Cond.fieldLink "RowImprover" (33 : Nat) "RowImprover" "prover" "LRowImprover$Prover;") ∈ rz_tw := rz_use (List.mem_of_getElem? (i := 171) (by decide +kernel)) rfl
theorem rk_w134 : (Jvm.Cond.classLink "RowImprover" (37 : Nat) "RowImprover$Improver") ∈ rz_tw := rz_use (List.mem_of_getElem? (i := 134) (by decide +kernel)) rfl
theorem rk_w135 : (Jvm.Cond.instantiable "RowImprover$Improver" (7 : Nat)) ∈ rz_tw := rz_use (List.mem_of_getElem? (i := 135) (by decide +kernel)) rfl
theorem rk_w34 : (Jvm.Cond.initialized "RowImprover$Improver") ∈ rz_tw := rz_use (List.mem_of_getElem? (i := 34) (by decide +kernel)) rfl
theorem rk_w136 : (Jvm.Cond.methodLinkNest "RowImprover" (39 : Nat) ⟨"RowImprover$Improver", "<init>", "()V"⟩ "RowImprover") ∈ lw_tbl := List.mem_of_getElem? (i := 136) (by decide +kernel)
theorem rk_w137 : (Jvm.Cond.instanceMethod ⟨"RowImprover$Improver", "<init>", "()V"⟩) ∈ rz_tw := rz_use (List.mem_of_getElem? (i := 137) (by decide +kernel)) rfl
theorem rk_w172 : (Jvm.Cond.fieldLink "RowImprover" (40 : Nat) "RowImprover" "improver" "LRowImprover$Improver;") ∈ rz_tw := rz_use (List.mem_of_getElem? (i := 172) (by decide +kernel)) rfl
/-- a new RowImprover -/
def rk_y0 : MethodName := ⟨"RowImprover", "<init>", "()V"⟩
theorem rk_d0_0 : decode prog_1_method_1_code 0 = .ok (.aload_n 0, 1) := by decide +kernel
theorem rk_d0_1 : decode prog_1_method_1_code 1 = .ok (.invokespecial 1, 3) := by decide +kernel
theorem rk_d0_4 : decode prog_1_method_1_code 4 = .ok (.aload_n 0, 1) := by decide +kernel
theorem rk_d0_5 : decode prog_1_method_1_code 5 = .ok (.new 7, 3) := by decide +kernel
theorem rk_d0_8 : decode prog_1_method_1_code 8 = .ok (.dup, 1) := by decide +kernel
theorem rk_d0_9 : decode prog_1_method_1_code 9 = .ok (.invokespecial 9, 3) := by decide +kernel
theorem rk_d0_12 : decode prog_1_method_1_code 12 = .ok (.putfield 10, 3) := by decide +kernel
theorem rk_d0_15 : decode prog_1_method_1_code 15 = .ok (.aload_n 0, 1) := by decide +kernel
theorem rk_d0_16 : decode prog_1_method_1_code 16 = .ok (.new 16, 3) := by decide +kernel
theorem rk_d0_19 : decode prog_1_method_1_code 19 = .ok (.dup, 1) := by decide +kernel
theorem rk_d0_20 : decode prog_1_method_1_code 20 = .ok (.invokespecial 18, 3) := by decide +kernel
theorem rk_d0_23 : decode prog_1_method_1_code 23 = .ok (.putfield 19, 3) := by decide +kernel
theorem rk_d0_26 : decode prog_1_method_1_code 26 = .ok (.aload_n 0, 1) := by decide +kernel
theorem rk_d0_27 : decode prog_1_method_1_code 27 = .ok (.new 23, 3) := by decide +kernel
theorem rk_d0_30 : decode prog_1_method_1_code 30 = .ok (.dup, 1) := by decide +kernel
theorem rk_d0_31 : decode prog_1_method_1_code 31 = .ok (.invokespecial 25, 3) := by decide +kernel
theorem rk_d0_34 : decode prog_1_method_1_code 34 = .ok (.putfield 26, 3) := by decide +kernel
theorem rk_d0_37 : decode prog_1_method_1_code 37 = .ok (.aload_n 0, 1) := by decide +kernel
theorem rk_d0_38 : decode prog_1_method_1_code 38 = .ok (.new 30, 3) := by decide +kernel
theorem rk_d0_41 : decode prog_1_method_1_code 41 = .ok (.dup, 1) := by decide +kernel
theorem rk_d0_42 : decode prog_1_method_1_code 42 = .ok (.invokespecial 32, 3) := by decide +kernel
theorem rk_d0_45 : decode prog_1_method_1_code 45 = .ok (.putfield 33, 3) := by decide +kernel
theorem rk_d0_48 : decode prog_1_method_1_code 48 = .ok (.aload_n 0, 1) := by decide +kernel
theorem rk_d0_49 : decode prog_1_method_1_code 49 = .ok (.new 37, 3) := by decide +kernel
theorem rk_d0_52 : decode prog_1_method_1_code 52 = .ok (.dup, 1) := by decide +kernel
theorem rk_d0_53 : decode prog_1_method_1_code 53 = .ok (.invokespecial 39, 3) := by decide +kernel
theorem rk_d0_56 : decode prog_1_method_1_code 56 = .ok (.putfield 40, 3) := by decide +kernel
theorem rk_d0_59 : decode prog_1_method_1_code 59 = .ok (.return_, 1) := by decide +kernel
set_option maxHeartbeats 4000000 in
set_option maxRecDepth 100000 in
theorem k_0 (l : Launch) (D : va_G) (cI cJ : ClassId) (h0 sz : Nat) : Met l rk_y0 (Cond.code rk_y0 prog_1_method_1_code 1 none :: rz_tw) ({ frames := 4, cells := 24, slots := 143, locals := 72 }) (rz_prc D cI cJ h0 sz [(h0, .inr (0, [.null, .null, .null, .null, .null]))]) (va_Qv (fun _ : Unit => True) (fun _ t => ∃ q1 q2 q3 q4 q5 q6 q7 q8 q9 q10 q11 q12 q13 q14 q15 q16 q17 q18 q19 q20 q21 q22 q23 q24 : Nat, va_P D rz_cl [(h0, .inr (0, [.ref q1, .ref q3, .ref q6, .ref q8, .ref q13])), (q1, .inr (1, [.ref q2, .int 0])), (q2, .inl (cI, 24, .inl fun _ => 0)), (q3, .inr (2, [.ref q4, .ref q5, .int 0, .int 0, .int 0, .int 0])), (q4, .inl (cI, 8, .inl fun _ => 0)), (q5, .inl (cI, 8, .inl fun _ => 0)), (q6, .inr (3, [.ref q7])), (q7, .inl (cI, 25, .inl fun _ => 0)), (q8, .inr (4, [.ref q9, .ref q11, .int 0])), (q9, .inr (5, [.ref q10, .int 0])), (q10, .inl (cI, 3, .inl fun _ => 0)), (q11, .inr (5, [.ref q12, .int 0])), (q12, .inl (cI, 3, .inl fun _ => 0)), (q13, .inr (6, [.ref q14, .ref q16, .ref q21, .ref q23, .int 0, .int 0, .int 0])), (q14, .inr (3, [.ref q15])), (q15, .inl (cI, 25, .inl fun _ => 0)), (q16, .inr (4, [.ref q17, .ref q19, .int 0])), (q17, .inr (5, [.ref q18, .int 0])), (q18, .inl (cI, 3, .inl fun _ => 0)), (q19, .inr (5, [.ref q20, .int 0])), (q20, .inl (cI, 3, .inl fun _ => 0)), (q21, .inr (5, [.ref q22, .int 0])), (q22, .inl (cI, 3, .inl fun _ => 0)), (q23, .inr (5, [.ref q24, .int 0])), (q24, .inl (cI, 3, .inl fun _ => 0))] t.heap ∧ va_D (va_A [(h0, .inr (0, [.null, .null, .null, .null, .null]))] sz) [(h0, .inr (0, [.ref q1, .ref q3, .ref q6, .ref q8, .ref q13])), (q1, .inr (1, [.ref q2, .int 0])), (q2, .inl (cI, 24, .inl fun _ => 0)), (q3, .inr (2, [.ref q4, .ref q5, .int 0, .int 0, .int 0, .int 0])), (q4, .inl (cI, 8, .inl fun _ => 0)), (q5, .inl (cI, 8, .inl fun _ => 0)), (q6, .inr (3, [.ref q7])), (q7, .inl (cI, 25, .inl fun _ => 0)), (q8, .inr (4, [.ref q9, .ref q11, .int 0])), (q9, .inr (5, [.ref q10, .int 0])), (q10, .inl (cI, 3, .inl fun _ => 0)), (q11, .inr (5, [.ref q12, .int 0])), (q12, .inl (cI, 3, .inl fun _ => 0)), (q13, .inr (6, [.ref q14, .ref q16, .ref q21, .ref q23, .int 0, .int 0, .int 0])), (q14, .inr (3, [.ref q15])), (q15, .inl (cI, 25, .inl fun _ => 0)), (q16, .inr (4, [.ref q17, .ref q19, .int 0])), (q17, .inr (5, [.ref q18, .int 0])), (q18, .inl (cI, 3, .inl fun _ => 0)), (q19, .inr (5, [.ref q20, .int 0])), (q20, .inl (cI, 3, .inl fun _ => 0)), (q21, .inr (5, [.ref q22, .int 0])), (q22, .inl (cI, 3, .inl fun _ => 0)), (q23, .inr (5, [.ref q24, .int 0])), (q24, .inl (cI, 3, .inl fun _ => 0))]) (va_A [(h0, .inr (0, [.null, .null, .null, .null, .null]))] sz)) 24 143 (va_A [(h0, .inr (0, [.null, .null, .null, .null, .null]))] sz) := by
  refine Met.ofW (cc := prog_1_method_1_code) (maxL := 1) (ret := none) (by decide) rfl ?_
  intro p e s m args below meth c s₁ B hml hv
  obtain ⟨rfl, hsz, hP, hK, hD0, hN⟩ := hv
  have hx := B.exec
  have hb := B.bytes
  have hr := B.returns
  have hts : ∀ w ∈ rz_tw, w.before ([.ref h0] : List Value).toArray s = true := fun w hw => atoms_spec (ws := Cond.code rk_y0 prog_1_method_1_code 1 none :: rz_tw) B.pre w (List.mem_cons_of_mem _ hw)
  have hown : s.vm.findClass "RowImprover" = some m.cls := findClass_of_methodNamed B.named
  have hlocks := B.notSynchronized
  have hin : meth.name = "<init>" := (name_of_methodNamed B.named B.method).1
  subst hsz
  have hD := hD0.self (sz := s.heap.size)
  generalize hAe : va_A [(h0, .inr (0, [.null, .null, .null, .null, .null]))] s.heap.size = A at hD ⊢
  have hA : ∀ q : Nat, s.heap.size ≤ q → A q := fun q h => by rw [← hAe]; exact Or.inr h
  have hS : va_S A s.heap s.heap [] := va_S.rf
  have hP : va_P D rz_cl [(h0, .inr (0, [.null, .null, .null, .null, .null]))] s.heap := hP
  have hl := lv_entry ([.ref h0]) (n := 1) (Nat.le_of_ble_eq_true rfl)
  rw [lg_entry_eq]
  generalize (lg_sl ([.ref h0]) ++ List.replicate (1 - (lg_sl ([.ref h0])).length) Slot.unset).toArray = ls at hl ⊢
  have hl : lv_has ls 1 [(0, .ref h0)] := hl
  refine lv_aload_n hx hb rk_d0_0 rfl (lv_at hl 0 rfl) ?_
  refine W.objInit hx hb hown (hts _ rk_w53) (hts _ rk_w54) (hts _ rk_w55) rfl (by rw [hml]; exact hl.1) rfl rk_d0_1 (Nat.le_of_ble_eq_true rfl) (Nat.le_of_ble_eq_true rfl) ?_
  refine W.eq (g2 := F0 m 4 ls []) rfl ?_
  refine lv_aload_n hx hb rk_d0_4 rfl (lv_at hl 0 rfl) ?_
  refine va_new (ci := 1) (fs := [.null, .int 0]) (C := "RowImprover$Program") (T := rz_F1) (N := 2) hx hb hts (rz_clw_of (ci := 1) rfl) (rz_fty 1) (rz_cty_of (ci := 1) rfl) hown (hts _ rk_w56) (hts _ rk_w57) (hts _ rk_w29) hK hP hD hS hA rfl (rz_df1) (show 0 + 1 ≤ 24 by decide) (show 0 + 2 ≤ 143 by decide) rk_d0_5 (fun q1 H hP hD hS => ?_)
  have hP : va_P D rz_cl [(h0, .inr (0, [.null, .null, .null, .null, .null])), (q1, .inr (1, [.null, .int 0]))] H := hP
  have hD : va_D A [(h0, .inr (0, [.null, .null, .null, .null, .null])), (q1, .inr (1, [.null, .int 0]))] := hD
  refine W.widen (k := 1) (n := 2) (by omega) (by omega) ?_
  refine lv_dup hx hb rk_d0_8 rfl ?_
  have hPc := hP.sub (ws' := [(q1, .inr (1, [.null, .int 0]))]) [1] rfl
  have hDc := hD.sub (ws' := [(q1, .inr (1, [.null, .int 0]))]) [1] (by decide) rfl
  have hFc := va_free (wc := [(q1, .inr (1, [.null, .int 0]))]) hD hS hA [1] rfl
  refine va_callv (va_runIN (As := []) (rest := [.ref q1, .ref h0]) ⟨hx, hb, hml, hown, hts⟩ (k_1 l D cI cJ q1 H.size) ⟨va_cnB 0 hts (rz_gi rk_w60) rfl rfl rfl (hN _ rk_w58 rfl) (hts _ rk_w29) (by decide +kernel) ⟨Nat.le_of_ble_eq_true rfl, Nat.le_of_ble_eq_true rfl⟩, rfl, hts _ rk_w59⟩ (rz_pre hPc hK hDc hN) rfl rfl hl.1 rfl (lv_room (Nat.le_of_ble_eq_true rfl)) rk_d0_9 ⟨(show 1 + 1 ≤ 24 by decide), (show 2 + 24 ≤ 143 by decide)⟩) hS (fun q _ h => hFc q h) hFc (fun u t H1 locs ht hvm _ hB hz1 hk1 hS => ?_)
  obtain ⟨q2, hP1, hD1⟩ := hB
  rw [ht] at hP1
  obtain ⟨hP, hD⟩ := va_join (wr := [(h0, .inr (0, [.null, .null, .null, .null, .null]))]) (w1 := [(q1, .inr (1, [.ref q2, .int 0])), (q2, .inl (cI, 24, .inl fun _ => 0))]) hP hD [1] [0] rfl rfl (by decide) (by decide) hk1 hFc hP1 hD1
  generalize H1 = H at hP hS ⊢
  have hP : va_P D rz_cl [(h0, .inr (0, [.null, .null, .null, .null, .null])), (q1, .inr (1, [.ref q2, .int 0])), (q2, .inl (cI, 24, .inl fun _ => 0))] H := hP
  have hD : va_D A [(h0, .inr (0, [.null, .null, .null, .null, .null])), (q1, .inr (1, [.ref q2, .int 0])), (q2, .inl (cI, 24, .inl fun _ => 0))] := hD
  refine W.widen (k := 2) (n := 26) (by omega) (by omega) ?_
  refine va_putF (D := D) (ci := 0) (v := .ref q1) (ty := .object "RowImprover$Program") (C := "RowImprover") (T := rz_F0) (N := 5) hx hb hts (rz_clw_of (ci := 0) rfl) (rz_fty 0) (rz_cty_of (ci := 0) rfl) (rz_cnm_of (ci := 0) rfl) hown hK hP hD hS 0 rfl rfl 0 (by decide) (hts _ rk_w168) (fun _ h9 => h9) rfl hin rfl (by decide +kernel) rfl rfl (Nat.le_of_ble_eq_true rfl) rk_d0_12 (fun H locs hP hD hS => ?_)
  have hP : va_P D rz_cl [(h0, .inr (0, [.ref q1, .null, .null, .null, .null])), (q1, .inr (1, [.ref q2, .int 0])), (q2, .inl (cI, 24, .inl fun _ => 0))] H := hP
  have hD : va_D A [(h0, .inr (0, [.ref q1, .null, .null, .null, .null])), (q1, .inr (1, [.ref q2, .int 0])), (q2, .inl (cI, 24, .inl fun _ => 0))] := hD
  refine lv_aload_n hx hb rk_d0_15 rfl (lv_at hl 0 rfl) ?_
  refine va_new (ci := 2) (fs := [.null, .null, .int 0, .int 0, .int 0, .int 0]) (C := "RowImprover$Machine") (T := rz_F2) (N := 6) hx hb hts (rz_clw_of (ci := 2) rfl) (rz_fty 2) (rz_cty_of (ci := 2) rfl) hown (hts _ rk_w70) (hts _ rk_w71) (hts _ rk_w30) hK hP hD hS hA rfl (rz_df2) (show 2 + 1 ≤ 24 by decide) (show 26 + 6 ≤ 143 by decide) rk_d0_16 (fun q3 H hP hD hS => ?_)
  have hP : va_P D rz_cl [(h0, .inr (0, [.ref q1, .null, .null, .null, .null])), (q1, .inr (1, [.ref q2, .int 0])), (q2, .inl (cI, 24, .inl fun _ => 0)), (q3, .inr (2, [.null, .null, .int 0, .int 0, .int 0, .int 0]))] H := hP
  have hD : va_D A [(h0, .inr (0, [.ref q1, .null, .null, .null, .null])), (q1, .inr (1, [.ref q2, .int 0])), (q2, .inl (cI, 24, .inl fun _ => 0)), (q3, .inr (2, [.null, .null, .int 0, .int 0, .int 0, .int 0]))] := hD
  refine W.widen (k := 3) (n := 32) (by omega) (by omega) ?_
  refine lv_dup hx hb rk_d0_19 rfl ?_
  have hPc := hP.sub (ws' := [(q3, .inr (2, [.null, .null, .int 0, .int 0, .int 0, .int 0]))]) [3] rfl
  have hDc := hD.sub (ws' := [(q3, .inr (2, [.null, .null, .int 0, .int 0, .int 0, .int 0]))]) [3] (by decide) rfl
  have hFc := va_free (wc := [(q3, .inr (2, [.null, .null, .int 0, .int 0, .int 0, .int 0]))]) hD hS hA [3] rfl
  refine va_callv (va_runIN (As := []) (rest := [.ref q3, .ref h0]) ⟨hx, hb, hml, hown, hts⟩ (k_2 l D cI cJ q3 H.size) ⟨va_cnB 0 hts (rz_gi rk_w74) rfl rfl rfl (hN _ rk_w72 rfl) (hts _ rk_w30) (by decide +kernel) ⟨Nat.le_of_ble_eq_true rfl, Nat.le_of_ble_eq_true rfl⟩, rfl, hts _ rk_w73⟩ (rz_pre hPc hK hDc hN) rfl rfl hl.1 rfl (lv_room (Nat.le_of_ble_eq_true rfl)) rk_d0_20 ⟨(show 3 + 2 ≤ 24 by decide), (show 32 + 16 ≤ 143 by decide)⟩) hS (fun q _ h => hFc q h) hFc (fun u t H1 locs ht hvm _ hB hz1 hk1 hS => ?_)
  obtain ⟨q4, q5, hP1, hD1⟩ := hB
  rw [ht] at hP1
  obtain ⟨hP, hD⟩ := va_join (wr := [(h0, .inr (0, [.ref q1, .null, .null, .null, .null])), (q1, .inr (1, [.ref q2, .int 0])), (q2, .inl (cI, 24, .inl fun _ => 0))]) (w1 := [(q3, .inr (2, [.ref q4, .ref q5, .int 0, .int 0, .int 0, .int 0])), (q4, .inl (cI, 8, .inl fun _ => 0)), (q5, .inl (cI, 8, .inl fun _ => 0))]) hP hD [3] [0, 1, 2] rfl rfl (by decide) (by decide) hk1 hFc hP1 hD1
  generalize H1 = H at hP hS ⊢
  have hP : va_P D rz_cl [(h0, .inr (0, [.ref q1, .null, .null, .null, .null])), (q1, .inr (1, [.ref q2, .int 0])), (q2, .inl (cI, 24, .inl fun _ => 0)), (q3, .inr (2, [.ref q4, .ref q5, .int 0, .int 0, .int 0, .int 0])), (q4, .inl (cI, 8, .inl fun _ => 0)), (q5, .inl (cI, 8, .inl fun _ => 0))] H := hP
  have hD : va_D A [(h0, .inr (0, [.ref q1, .null, .null, .null, .null])), (q1, .inr (1, [.ref q2, .int 0])), (q2, .inl (cI, 24, .inl fun _ => 0)), (q3, .inr (2, [.ref q4, .ref q5, .int 0, .int 0, .int 0, .int 0])), (q4, .inl (cI, 8, .inl fun _ => 0)), (q5, .inl (cI, 8, .inl fun _ => 0))] := hD
  refine W.widen (k := 5) (n := 48) (by omega) (by omega) ?_
  refine va_putF (D := D) (ci := 0) (v := .ref q3) (ty := .object "RowImprover$Machine") (C := "RowImprover") (T := rz_F0) (N := 5) hx hb hts (rz_clw_of (ci := 0) rfl) (rz_fty 0) (rz_cty_of (ci := 0) rfl) (rz_cnm_of (ci := 0) rfl) hown hK hP hD hS 0 rfl rfl 1 (by decide) (hts _ rk_w169) (fun _ h9 => h9) rfl hin rfl (by decide +kernel) rfl rfl (Nat.le_of_ble_eq_true rfl) rk_d0_23 (fun H locs hP hD hS => ?_)
  have hP : va_P D rz_cl [(h0, .inr (0, [.ref q1, .ref q3, .null, .null, .null])), (q1, .inr (1, [.ref q2, .int 0])), (q2, .inl (cI, 24, .inl fun _ => 0)), (q3, .inr (2, [.ref q4, .ref q5, .int 0, .int 0, .int 0, .int 0])), (q4, .inl (cI, 8, .inl fun _ => 0)), (q5, .inl (cI, 8, .inl fun _ => 0))] H := hP
  have hD : va_D A [(h0, .inr (0, [.ref q1, .ref q3, .null, .null, .null])), (q1, .inr (1, [.ref q2, .int 0])), (q2, .inl (cI, 24, .inl fun _ => 0)), (q3, .inr (2, [.ref q4, .ref q5, .int 0, .int 0, .int 0, .int 0])), (q4, .inl (cI, 8, .inl fun _ => 0)), (q5, .inl (cI, 8, .inl fun _ => 0))] := hD
  refine lv_aload_n hx hb rk_d0_26 rfl (lv_at hl 0 rfl) ?_
  refine va_new (ci := 3) (fs := [.null]) (C := "RowImprover$Liveness") (T := rz_F3) (N := 1) hx hb hts (rz_clw_of (ci := 3) rfl) (rz_fty 3) (rz_cty_of (ci := 3) rfl) hown (hts _ rk_w95) (hts _ rk_w96) (hts _ rk_w31) hK hP hD hS hA rfl (rz_df3) (show 5 + 1 ≤ 24 by decide) (show 48 + 1 ≤ 143 by decide) rk_d0_27 (fun q6 H hP hD hS => ?_)
  have hP : va_P D rz_cl [(h0, .inr (0, [.ref q1, .ref q3, .null, .null, .null])), (q1, .inr (1, [.ref q2, .int 0])), (q2, .inl (cI, 24, .inl fun _ => 0)), (q3, .inr (2, [.ref q4, .ref q5, .int 0, .int 0, .int 0, .int 0])), (q4, .inl (cI, 8, .inl fun _ => 0)), (q5, .inl (cI, 8, .inl fun _ => 0)), (q6, .inr (3, [.null]))] H := hP
  have hD : va_D A [(h0, .inr (0, [.ref q1, .ref q3, .null, .null, .null])), (q1, .inr (1, [.ref q2, .int 0])), (q2, .inl (cI, 24, .inl fun _ => 0)), (q3, .inr (2, [.ref q4, .ref q5, .int 0, .int 0, .int 0, .int 0])), (q4, .inl (cI, 8, .inl fun _ => 0)), (q5, .inl (cI, 8, .inl fun _ => 0)), (q6, .inr (3, [.null]))] := hD
  refine W.widen (k := 6) (n := 49) (by omega) (by omega) ?_
  refine lv_dup hx hb rk_d0_30 rfl ?_
  have hPc := hP.sub (ws' := [(q6, .inr (3, [.null]))]) [6] rfl
  have hDc := hD.sub (ws' := [(q6, .inr (3, [.null]))]) [6] (by decide) rfl
  have hFc := va_free (wc := [(q6, .inr (3, [.null]))]) hD hS hA [6] rfl
  refine va_callv (va_runIN (As := []) (rest := [.ref q6, .ref h0]) ⟨hx, hb, hml, hown, hts⟩ (k_3 l D cI cJ q6 H.size) ⟨va_cnB 0 hts (rz_gi rk_w99) rfl rfl rfl (hN _ rk_w97 rfl) (hts _ rk_w31) (by decide +kernel) ⟨Nat.le_of_ble_eq_true rfl, Nat.le_of_ble_eq_true rfl⟩, rfl, hts _ rk_w98⟩ (rz_pre hPc hK hDc hN) rfl rfl hl.1 rfl (lv_room (Nat.le_of_ble_eq_true rfl)) rk_d0_31 ⟨(show 6 + 1 ≤ 24 by decide), (show 49 + 25 ≤ 143 by decide)⟩) hS (fun q _ h => hFc q h) hFc (fun u t H1 locs ht hvm _ hB hz1 hk1 hS => ?_)
  obtain ⟨q7, hP1, hD1⟩ := hB
  rw [ht] at hP1
  obtain ⟨hP, hD⟩ := va_join (wr := [(h0, .inr (0, [.ref q1, .ref q3, .null, .null, .null])), (q1, .inr (1, [.ref q2, .int 0])), (q2, .inl (cI, 24, .inl fun _ => 0)), (q3, .inr (2, [.ref q4, .ref q5, .int 0, .int 0, .int 0, .int 0])), (q4, .inl (cI, 8, .inl fun _ => 0)), (q5, .inl (cI, 8, .inl fun _ => 0))]) (w1 := [(q6, .inr (3, [.ref q7])), (q7, .inl (cI, 25, .inl fun _ => 0))]) hP hD [6] [0, 1, 2, 3, 4, 5] rfl rfl (by decide) (by decide) hk1 hFc hP1 hD1
  generalize H1 = H at hP hS ⊢
  have hP : va_P D rz_cl [(h0, .inr (0, [.ref q1, .ref q3, .null, .null, .null])), (q1, .inr (1, [.ref q2, .int 0])), (q2, .inl (cI, 24, .inl fun _ => 0)), (q3, .inr (2, [.ref q4, .ref q5, .int 0, .int 0, .int 0, .int 0])), (q4, .inl (cI, 8, .inl fun _ => 0)), (q5, .inl (cI, 8, .inl fun _ => 0)), (q6, .inr (3, [.ref q7])), (q7, .inl (cI, 25, .inl fun _ => 0))] H := hP
  have hD : va_D A [(h0, .inr (0, [.ref q1, .ref q3, .null, .null, .null])), (q1, .inr (1, [.ref q2, .int 0])), (q2, .inl (cI, 24, .inl fun _ => 0)), (q3, .inr (2, [.ref q4, .ref q5, .int 0, .int 0, .int 0, .int 0])), (q4, .inl (cI, 8, .inl fun _ => 0)), (q5, .inl (cI, 8, .inl fun _ => 0)), (q6, .inr (3, [.ref q7])), (q7, .inl (cI, 25, .inl fun _ => 0))] := hD
  refine W.widen (k := 7) (n := 74) (by omega) (by omega) ?_
  refine va_putF (D := D) (ci := 0) (v := .ref q6) (ty := .object "RowImprover$Liveness") (C := "RowImprover") (T := rz_F0) (N := 5) hx hb hts (rz_clw_of (ci := 0) rfl) (rz_fty 0) (rz_cty_of (ci := 0) rfl) (rz_cnm_of (ci := 0) rfl) hown hK hP hD hS 0 rfl rfl 2 (by decide) (hts _ rk_w170) (fun _ h9 => h9) rfl hin rfl (by decide +kernel) rfl rfl (Nat.le_of_ble_eq_true rfl) rk_d0_34 (fun H locs hP hD hS => ?_)
  have hP : va_P D rz_cl [(h0, .inr (0, [.ref q1, .ref q3, .ref q6, .null, .null])), (q1, .inr (1, [.ref q2, .int 0])), (q2, .inl (cI, 24, .inl fun _ => 0)), (q3, .inr (2, [.ref q4, .ref q5, .int 0, .int 0, .int 0, .int 0])), (q4, .inl (cI, 8, .inl fun _ => 0)), (q5, .inl (cI, 8, .inl fun _ => 0)), (q6, .inr (3, [.ref q7])), (q7, .inl (cI, 25, .inl fun _ => 0))] H := hP
  have hD : va_D A [(h0, .inr (0, [.ref q1, .ref q3, .ref q6, .null, .null])), (q1, .inr (1, [.ref q2, .int 0])), (q2, .inl (cI, 24, .inl fun _ => 0)), (q3, .inr (2, [.ref q4, .ref q5, .int 0, .int 0, .int 0, .int 0])), (q4, .inl (cI, 8, .inl fun _ => 0)), (q5, .inl (cI, 8, .inl fun _ => 0)), (q6, .inr (3, [.ref q7])), (q7, .inl (cI, 25, .inl fun _ => 0))] := hD
  refine lv_aload_n hx hb rk_d0_37 rfl (lv_at hl 0 rfl) ?_
  refine va_new (ci := 4) (fs := [.null, .null, .int 0]) (C := "RowImprover$Prover") (T := rz_F4) (N := 3) hx hb hts (rz_clw_of (ci := 4) rfl) (rz_fty 4) (rz_cty_of (ci := 4) rfl) hown (hts _ rk_w105) (hts _ rk_w106) (hts _ rk_w32) hK hP hD hS hA rfl (rz_df4) (show 7 + 1 ≤ 24 by decide) (show 74 + 3 ≤ 143 by decide) rk_d0_38 (fun q8 H hP hD hS => ?_)
  have hP : va_P D rz_cl [(h0, .inr (0, [.ref q1, .ref q3, .ref q6, .null, .null])), (q1, .inr (1, [.ref q2, .int 0])), (q2, .inl (cI, 24, .inl fun _ => 0)), (q3, .inr (2, [.ref q4, .ref q5, .int 0, .int 0, .int 0, .int 0])), (q4, .inl (cI, 8, .inl fun _ => 0)), (q5, .inl (cI, 8, .inl fun _ => 0)), (q6, .inr (3, [.ref q7])), (q7, .inl (cI, 25, .inl fun _ => 0)), (q8, .inr (4, [.null, .null, .int 0]))] H := hP
  have hD : va_D A [(h0, .inr (0, [.ref q1, .ref q3, .ref q6, .null, .null])), (q1, .inr (1, [.ref q2, .int 0])), (q2, .inl (cI, 24, .inl fun _ => 0)), (q3, .inr (2, [.ref q4, .ref q5, .int 0, .int 0, .int 0, .int 0])), (q4, .inl (cI, 8, .inl fun _ => 0)), (q5, .inl (cI, 8, .inl fun _ => 0)), (q6, .inr (3, [.ref q7])), (q7, .inl (cI, 25, .inl fun _ => 0)), (q8, .inr (4, [.null, .null, .int 0]))] := hD
  refine W.widen (k := 8) (n := 77) (by omega) (by omega) ?_
  refine lv_dup hx hb rk_d0_41 rfl ?_
  have hPc := hP.sub (ws' := [(q8, .inr (4, [.null, .null, .int 0]))]) [8] rfl
  have hDc := hD.sub (ws' := [(q8, .inr (4, [.null, .null, .int 0]))]) [8] (by decide) rfl
  have hFc := va_free (wc := [(q8, .inr (4, [.null, .null, .int 0]))]) hD hS hA [8] rfl
  refine va_callv (va_runIN (As := []) (rest := [.ref q8, .ref h0]) ⟨hx, hb, hml, hown, hts⟩ (k_4 l D cI cJ q8 H.size) ⟨va_cnB 0 hts (rz_gi rk_w109) rfl rfl rfl (hN _ rk_w107 rfl) (hts _ rk_w32) (by decide +kernel) ⟨Nat.le_of_ble_eq_true rfl, Nat.le_of_ble_eq_true rfl⟩, rfl, hts _ rk_w108⟩ (rz_pre hPc hK hDc hN) rfl rfl hl.1 rfl (lv_room (Nat.le_of_ble_eq_true rfl)) rk_d0_42 ⟨(show 8 + 4 ≤ 24 by decide), (show 77 + 10 ≤ 143 by decide)⟩) hS (fun q _ h => hFc q h) hFc (fun u t H1 locs ht hvm _ hB hz1 hk1 hS => ?_)
  obtain ⟨q9, q10, q11, q12, hP1, hD1⟩ := hB
  rw [ht] at hP1
  obtain ⟨hP, hD⟩ := va_join (wr := [(h0, .inr (0, [.ref q1, .ref q3, .ref q6, .null, .null])), (q1, .inr (1, [.ref q2, .int 0])), (q2, .inl (cI, 24, .inl fun _ => 0)), (q3, .inr (2, [.ref q4, .ref q5, .int 0, .int 0, .int 0, .int 0])), (q4, .inl (cI, 8, .inl fun _ => 0)), (q5, .inl (cI, 8, .inl fun _ => 0)), (q6, .inr (3, [.ref q7])), (q7, .inl (cI, 25, .inl fun _ => 0))]) (w1 := [(q8, .inr (4, [.ref q9, .ref q11, .int 0])), (q9, .inr (5, [.ref q10, .int 0])), (q10, .inl (cI, 3, .inl fun _ => 0)), (q11, .inr (5, [.ref q12, .int 0])), (q12, .inl (cI, 3, .inl fun _ => 0))]) hP hD [8] [0, 1, 2, 3, 4, 5, 6, 7] rfl rfl (by decide) (by decide) hk1 hFc hP1 hD1
  generalize H1 = H at hP hS ⊢
  have hP : va_P D rz_cl [(h0, .inr (0, [.ref q1, .ref q3, .ref q6, .null, .null])), (q1, .inr (1, [.ref q2, .int 0])), (q2, .inl (cI, 24, .inl fun _ => 0)), (q3, .inr (2, [.ref q4, .ref q5, .int 0, .int 0, .int 0, .int 0])), (q4, .inl (cI, 8, .inl fun _ => 0)), (q5, .inl (cI, 8, .inl fun _ => 0)), (q6, .inr (3, [.ref q7])), (q7, .inl (cI, 25, .inl fun _ => 0)), (q8, .inr (4, [.ref q9, .ref q11, .int 0])), (q9, .inr (5, [.ref q10, .int 0])), (q10, .inl (cI, 3, .inl fun _ => 0)), (q11, .inr (5, [.ref q12, .int 0])), (q12, .inl (cI, 3, .inl fun _ => 0))] H := hP
  have hD : va_D A [(h0, .inr (0, [.ref q1, .ref q3, .ref q6, .null, .null])), (q1, .inr (1, [.ref q2, .int 0])), (q2, .inl (cI, 24, .inl fun _ => 0)), (q3, .inr (2, [.ref q4, .ref q5, .int 0, .int 0, .int 0, .int 0])), (q4, .inl (cI, 8, .inl fun _ => 0)), (q5, .inl (cI, 8, .inl fun _ => 0)), (q6, .inr (3, [.ref q7])), (q7, .inl (cI, 25, .inl fun _ => 0)), (q8, .inr (4, [.ref q9, .ref q11, .int 0])), (q9, .inr (5, [.ref q10, .int 0])), (q10, .inl (cI, 3, .inl fun _ => 0)), (q11, .inr (5, [.ref q12, .int 0])), (q12, .inl (cI, 3, .inl fun _ => 0))] := hD
  refine W.widen (k := 12) (n := 87) (by omega) (by omega) ?_
  refine va_putF (D := D) (ci := 0) (v := .ref q8) (ty := .object "RowImprover$Prover") (C := "RowImprover") (T := rz_F0) (N := 5) hx hb hts (rz_clw_of (ci := 0) rfl) (rz_fty 0) (rz_cty_of (ci := 0) rfl) (rz_cnm_of (ci := 0) rfl) hown hK hP hD hS 0 rfl rfl 3 (by decide) (hts _ rk_w171) (fun _ h9 => h9) rfl hin rfl (by decide +kernel) rfl rfl (Nat.le_of_ble_eq_true rfl) rk_d0_45 (fun H locs hP hD hS => ?_)
  have hP : va_P D rz_cl [(h0, .inr (0, [.ref q1, .ref q3, .ref q6, .ref q8, .null])), (q1, .inr (1, [.ref q2, .int 0])), (q2, .inl (cI, 24, .inl fun _ => 0)), (q3, .inr (2, [.ref q4, .ref q5, .int 0, .int 0, .int 0, .int 0])), (q4, .inl (cI, 8, .inl fun _ => 0)), (q5, .inl (cI, 8, .inl fun _ => 0)), (q6, .inr (3, [.ref q7])), (q7, .inl (cI, 25, .inl fun _ => 0)), (q8, .inr (4, [.ref q9, .ref q11, .int 0])), (q9, .inr (5, [.ref q10, .int 0])), (q10, .inl (cI, 3, .inl fun _ => 0)), (q11, .inr (5, [.ref q12, .int 0])), (q12, .inl (cI, 3, .inl fun _ => 0))] H := hP
  have hD : va_D A [(h0, .inr (0, [.ref q1, .ref q3, .ref q6, .ref q8, .null])), (q1, .inr (1, [.ref q2, .int 0])), (q2, .inl (cI, 24, .inl fun _ => 0)), (q3, .inr (2, [.ref q4, .ref q5, .int 0, .int 0, .int 0, .int 0])), (q4, .inl (cI, 8, .inl fun _ => 0)), (q5, .inl (cI, 8, .inl fun _ => 0)), (q6, .inr (3, [.ref q7])), (q7, .inl (cI, 25, .inl fun _ => 0)), (q8, .inr (4, [.ref q9, .ref q11, .int 0])), (q9, .inr (5, [.ref q10, .int 0])), (q10, .inl (cI, 3, .inl fun _ => 0)), (q11, .inr (5, [.ref q12, .int 0])), (q12, .inl (cI, 3, .inl fun _ => 0))] := hD
  refine lv_aload_n hx hb rk_d0_48 rfl (lv_at hl 0 rfl) ?_
  refine va_new (ci := 6) (fs := [.null, .null, .null, .null, .int 0, .int 0, .int 0]) (C := "RowImprover$Improver") (T := rz_F6) (N := 7) hx hb hts (rz_clw_of (ci := 6) rfl) (rz_fty 6) (rz_cty_of (ci := 6) rfl) hown (hts _ rk_w134) (hts _ rk_w135) (hts _ rk_w34) hK hP hD hS hA rfl (rz_df6) (show 12 + 1 ≤ 24 by decide) (show 87 + 7 ≤ 143 by decide) rk_d0_49 (fun q13 H hP hD hS => ?_)
  have hP : va_P D rz_cl [(h0, .inr (0, [.ref q1, .ref q3, .ref q6, .ref q8, .null])), (q1, .inr (1, [.ref q2, .int 0])), (q2, .inl (cI, 24, .inl fun _ => 0)), (q3, .inr (2, [.ref q4, .ref q5, .int 0, .int 0, .int 0, .int 0])), (q4, .inl (cI, 8, .inl fun _ => 0)), (q5, .inl (cI, 8, .inl fun _ => 0)), (q6, .inr (3, [.ref q7])), (q7, .inl (cI, 25, .inl fun _ => 0)), (q8, .inr (4, [.ref q9, .ref q11, .int 0])), (q9, .inr (5, [.ref q10, .int 0])), (q10, .inl (cI, 3, .inl fun _ => 0)), (q11, .inr (5, [.ref q12, .int 0])), (q12, .inl (cI, 3, .inl fun _ => 0)), (q13, .inr (6, [.null, .null, .null, .null, .int 0, .int 0, .int 0]))] H := hP
  have hD : va_D A [(h0, .inr (0, [.ref q1, .ref q3, .ref q6, .ref q8, .null])), (q1, .inr (1, [.ref q2, .int 0])), (q2, .inl (cI, 24, .inl fun _ => 0)), (q3, .inr (2, [.ref q4, .ref q5, .int 0, .int 0, .int 0, .int 0])), (q4, .inl (cI, 8, .inl fun _ => 0)), (q5, .inl (cI, 8, .inl fun _ => 0)), (q6, .inr (3, [.ref q7])), (q7, .inl (cI, 25, .inl fun _ => 0)), (q8, .inr (4, [.ref q9, .ref q11, .int 0])), (q9, .inr (5, [.ref q10, .int 0])), (q10, .inl (cI, 3, .inl fun _ => 0)), (q11, .inr (5, [.ref q12, .int 0])), (q12, .inl (cI, 3, .inl fun _ => 0)), (q13, .inr (6, [.null, .null, .null, .null, .int 0, .int 0, .int 0]))] := hD
  refine W.widen (k := 13) (n := 94) (by omega) (by omega) ?_
  refine lv_dup hx hb rk_d0_52 rfl ?_
  have hPc := hP.sub (ws' := [(q13, .inr (6, [.null, .null, .null, .null, .int 0, .int 0, .int 0]))]) [13] rfl
  have hDc := hD.sub (ws' := [(q13, .inr (6, [.null, .null, .null, .null, .int 0, .int 0, .int 0]))]) [13] (by decide) rfl
  have hFc := va_free (wc := [(q13, .inr (6, [.null, .null, .null, .null, .int 0, .int 0, .int 0]))]) hD hS hA [13] rfl
  refine va_callv (va_runIN (As := []) (rest := [.ref q13, .ref h0]) ⟨hx, hb, hml, hown, hts⟩ (k_6 l D cI cJ q13 H.size) ⟨va_cnB 0 hts (rz_gi rk_w138) rfl rfl rfl (hN _ rk_w136 rfl) (hts _ rk_w34) (by decide +kernel) ⟨Nat.le_of_ble_eq_true rfl, Nat.le_of_ble_eq_true rfl⟩, rfl, hts _ rk_w137⟩ (rz_pre hPc hK hDc hN) rfl rfl hl.1 rfl (lv_room (Nat.le_of_ble_eq_true rfl)) rk_d0_53 ⟨(show 13 + 11 ≤ 24 by decide), (show 94 + 49 ≤ 143 by decide)⟩) hS (fun q _ h => hFc q h) hFc (fun u t H1 locs ht hvm _ hB hz1 hk1 hS => ?_)
  obtain ⟨q14, q15, q16, q17, q18, q19, q20, q21, q22, q23, q24, hP1, hD1⟩ := hB
  rw [ht] at hP1
  obtain ⟨hP, hD⟩ := va_join (wr := [(h0, .inr (0, [.ref q1, .ref q3, .ref q6, .ref q8, .null])), (q1, .inr (1, [.ref q2, .int 0])), (q2, .inl (cI, 24, .inl fun _ => 0)), (q3, .inr (2, [.ref q4, .ref q5, .int 0, .int 0, .int 0, .int 0])), (q4, .inl (cI, 8, .inl fun _ => 0)), (q5, .inl (cI, 8, .inl fun _ => 0)), (q6, .inr (3, [.ref q7])), (q7, .inl (cI, 25, .inl fun _ => 0)), (q8, .inr (4, [.ref q9, .ref q11, .int 0])), (q9, .inr (5, [.ref q10, .int 0])), (q10, .inl (cI, 3, .inl fun _ => 0)), (q11, .inr (5, [.ref q12, .int 0])), (q12, .inl (cI, 3, .inl fun _ => 0))]) (w1 := [(q13, .inr (6, [.ref q14, .ref q16, .ref q21, .ref q23, .int 0, .int 0, .int 0])), (q14, .inr (3, [.ref q15])), (q15, .inl (cI, 25, .inl fun _ => 0)), (q16, .inr (4, [.ref q17, .ref q19, .int 0])), (q17, .inr (5, [.ref q18, .int 0])), (q18, .inl (cI, 3, .inl fun _ => 0)), (q19, .inr (5, [.ref q20, .int 0])), (q20, .inl (cI, 3, .inl fun _ => 0)), (q21, .inr (5, [.ref q22, .int 0])), (q22, .inl (cI, 3, .inl fun _ => 0)), (q23, .inr (5, [.ref q24, .int 0])), (q24, .inl (cI, 3, .inl fun _ => 0))]) hP hD [13] [0, 1, 2, 3, 4, 5, 6, 7, 8, 9, 10, 11, 12] rfl rfl (by decide) (by decide) hk1 hFc hP1 hD1
  generalize H1 = H at hP hS ⊢
  have hP : va_P D rz_cl [(h0, .inr (0, [.ref q1, .ref q3, .ref q6, .ref q8, .null])), (q1, .inr (1, [.ref q2, .int 0])), (q2, .inl (cI, 24, .inl fun _ => 0)), (q3, .inr (2, [.ref q4, .ref q5, .int 0, .int 0, .int 0, .int 0])), (q4, .inl (cI, 8, .inl fun _ => 0)), (q5, .inl (cI, 8, .inl fun _ => 0)), (q6, .inr (3, [.ref q7])), (q7, .inl (cI, 25, .inl fun _ => 0)), (q8, .inr (4, [.ref q9, .ref q11, .int 0])), (q9, .inr (5, [.ref q10, .int 0])), (q10, .inl (cI, 3, .inl fun _ => 0)), (q11, .inr (5, [.ref q12, .int 0])), (q12, .inl (cI, 3, .inl fun _ => 0)), (q13, .inr (6, [.ref q14, .ref q16, .ref q21, .ref q23, .int 0, .int 0, .int 0])), (q14, .inr (3, [.ref q15])), (q15, .inl (cI, 25, .inl fun _ => 0)), (q16, .inr (4, [.ref q17, .ref q19, .int 0])), (q17, .inr (5, [.ref q18, .int 0])), (q18, .inl (cI, 3, .inl fun _ => 0)), (q19, .inr (5, [.ref q20, .int 0])), (q20, .inl (cI, 3, .inl fun _ => 0)), (q21, .inr (5, [.ref q22, .int 0])), (q22, .inl (cI, 3, .inl fun _ => 0)), (q23, .inr (5, [.ref q24, .int 0])), (q24, .inl (cI, 3, .inl fun _ => 0))] H := hP
  have hD : va_D A [(h0, .inr (0, [.ref q1, .ref q3, .ref q6, .ref q8, .null])), (q1, .inr (1, [.ref q2, .int 0])), (q2, .inl (cI, 24, .inl fun _ => 0)), (q3, .inr (2, [.ref q4, .ref q5, .int 0, .int 0, .int 0, .int 0])), (q4, .inl (cI, 8, .inl fun _ => 0)), (q5, .inl (cI, 8, .inl fun _ => 0)), (q6, .inr (3, [.ref q7])), (q7, .inl (cI, 25, .inl fun _ => 0)), (q8, .inr (4, [.ref q9, .ref q11, .int 0])), (q9, .inr (5, [.ref q10, .int 0])), (q10, .inl (cI, 3, .inl fun _ => 0)), (q11, .inr (5, [.ref q12, .int 0])), (q12, .inl (cI, 3, .inl fun _ => 0)), (q13, .inr (6, [.ref q14, .ref q16, .ref q21, .ref q23, .int 0, .int 0, .int 0])), (q14, .inr (3, [.ref q15])), (q15, .inl (cI, 25, .inl fun _ => 0)), (q16, .inr (4, [.ref q17, .ref q19, .int 0])), (q17, .inr (5, [.ref q18, .int 0])), (q18, .inl (cI, 3, .inl fun _ => 0)), (q19, .inr (5, [.ref q20, .int 0])), (q20, .inl (cI, 3, .inl fun _ => 0)), (q21, .inr (5, [.ref q22, .int 0])), (q22, .inl (cI, 3, .inl fun _ => 0)), (q23, .inr (5, [.ref q24, .int 0])), (q24, .inl (cI, 3, .inl fun _ => 0))] := hD
  refine W.widen (k := 24) (n := 143) (by omega) (by omega) ?_
  refine va_putF (D := D) (ci := 0) (v := .ref q13) (ty := .object "RowImprover$Improver") (C := "RowImprover") (T := rz_F0) (N := 5) hx hb hts (rz_clw_of (ci := 0) rfl) (rz_fty 0) (rz_cty_of (ci := 0) rfl) (rz_cnm_of (ci := 0) rfl) hown hK hP hD hS 0 rfl rfl 4 (by decide) (hts _ rk_w172) (fun _ h9 => h9) rfl hin rfl (by decide +kernel) rfl rfl (Nat.le_of_ble_eq_true rfl) rk_d0_56 (fun H locs hP hD hS => ?_)
  have hP : va_P D rz_cl [(h0, .inr (0, [.ref q1, .ref q3, .ref q6, .ref q8, .ref q13])), (q1, .inr (1, [.ref q2, .int 0])), (q2, .inl (cI, 24, .inl fun _ => 0)), (q3, .inr (2, [.ref q4, .ref q5, .int 0, .int 0, .int 0, .int 0])), (q4, .inl (cI, 8, .inl fun _ => 0)), (q5, .inl (cI, 8, .inl fun _ => 0)), (q6, .inr (3, [.ref q7])), (q7, .inl (cI, 25, .inl fun _ => 0)), (q8, .inr (4, [.ref q9, .ref q11, .int 0])), (q9, .inr (5, [.ref q10, .int 0])), (q10, .inl (cI, 3, .inl fun _ => 0)), (q11, .inr (5, [.ref q12, .int 0])), (q12, .inl (cI, 3, .inl fun _ => 0)), (q13, .inr (6, [.ref q14, .ref q16, .ref q21, .ref q23, .int 0, .int 0, .int 0])), (q14, .inr (3, [.ref q15])), (q15, .inl (cI, 25, .inl fun _ => 0)), (q16, .inr (4, [.ref q17, .ref q19, .int 0])), (q17, .inr (5, [.ref q18, .int 0])), (q18, .inl (cI, 3, .inl fun _ => 0)), (q19, .inr (5, [.ref q20, .int 0])), (q20, .inl (cI, 3, .inl fun _ => 0)), (q21, .inr (5, [.ref q22, .int 0])), (q22, .inl (cI, 3, .inl fun _ => 0)), (q23, .inr (5, [.ref q24, .int 0])), (q24, .inl (cI, 3, .inl fun _ => 0))] H := hP
  have hD : va_D A [(h0, .inr (0, [.ref q1, .ref q3, .ref q6, .ref q8, .ref q13])), (q1, .inr (1, [.ref q2, .int 0])), (q2, .inl (cI, 24, .inl fun _ => 0)), (q3, .inr (2, [.ref q4, .ref q5, .int 0, .int 0, .int 0, .int 0])), (q4, .inl (cI, 8, .inl fun _ => 0)), (q5, .inl (cI, 8, .inl fun _ => 0)), (q6, .inr (3, [.ref q7])), (q7, .inl (cI, 25, .inl fun _ => 0)), (q8, .inr (4, [.ref q9, .ref q11, .int 0])), (q9, .inr (5, [.ref q10, .int 0])), (q10, .inl (cI, 3, .inl fun _ => 0)), (q11, .inr (5, [.ref q12, .int 0])), (q12, .inl (cI, 3, .inl fun _ => 0)), (q13, .inr (6, [.ref q14, .ref q16, .ref q21, .ref q23, .int 0, .int 0, .int 0])), (q14, .inr (3, [.ref q15])), (q15, .inl (cI, 25, .inl fun _ => 0)), (q16, .inr (4, [.ref q17, .ref q19, .int 0])), (q17, .inr (5, [.ref q18, .int 0])), (q18, .inl (cI, 3, .inl fun _ => 0)), (q19, .inr (5, [.ref q20, .int 0])), (q20, .inl (cI, 3, .inl fun _ => 0)), (q21, .inr (5, [.ref q22, .int 0])), (q22, .inl (cI, 3, .inl fun _ => 0)), (q23, .inr (5, [.ref q24, .int 0])), (q24, .inl (cI, 3, .inl fun _ => 0))] := hD
  exact W.vret hx hb hr (fun t ht hW => ⟨⟨(), rfl, trivial, q1, q2, q3, q4, q5, q6, q7, q8, q9, q10, q11, q12, q13, q14, q15, q16, q17, q18, q19, q20, q21, q22, q23, q24, by rw [ht]; exact hP, hD⟩, hS.F ht⟩) hS.2.2 rk_d0_59
