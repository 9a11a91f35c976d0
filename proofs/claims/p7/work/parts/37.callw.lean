/-! a call of the abstract machine, in the walk -/
theorem rz_ok1 {M pc len x y z : Nat} {ins : Instr} (h : rz_ok M pc (1, ins, len, x, y, z) = true) : decode (rz_by M) pc = .ok (ins, 3) ∧ len = 3 ∧ y = rz_na x ∧ 0 < x ∧ rz_fr x + 1 ≤ rz_fr M ∧ 8 + (rz_mL x + 11) + rz_lo x ≤ rz_lo M ∧ ((∃ idx, ins = .invokestatic idx ∧ rz_st x = true ∧ Cond.methodLink (rz_y M).cls idx (rz_y x) ∈ rz_tw) ∨ (∃ idx, ins = .invokevirtual idx ∧ rz_st x = false ∧ Cond.methodLink (rz_y M).cls idx (rz_y x) ∈ rz_tw)) := by
  obtain ⟨h1, h2⟩ := Bool.and_eq_true_iff.mp h
  have h1 : decode (rz_by M) pc = .ok (ins, len) := of_decide_eq_true h1
  obtain ⟨h2, a6⟩ := Bool.and_eq_true_iff.mp h2
  obtain ⟨h2, a5⟩ := Bool.and_eq_true_iff.mp h2
  obtain ⟨h2, a4⟩ := Bool.and_eq_true_iff.mp h2
  obtain ⟨h2, a3⟩ := Bool.and_eq_true_iff.mp h2
  obtain ⟨a1, a2⟩ := Bool.and_eq_true_iff.mp h2
  have a1 : len = 3 := of_decide_eq_true a1
  subst a1
  refine ⟨h1, rfl, of_decide_eq_true a2, of_decide_eq_true a3, of_decide_eq_true a4, of_decide_eq_true a5, ?_⟩
  cases ins <;> first | exact absurd (show false = true from a6) (by decide) | skip
  · obtain ⟨b1, b2⟩ := Bool.and_eq_true_iff.mp a6
    exact Or.inl ⟨_, rfl, b1, rz_use (rz_wd_in b2) rfl⟩
  · obtain ⟨b1, b2⟩ := Bool.and_eq_true_iff.mp a6
    exact Or.inr ⟨_, rfl, by simpa using b1, rz_use (rz_wd_in b2) rfl⟩
theorem rz_go_lt {pc k hp : Nat} : ∀ (hs : List (Nat × Nat × Nat × Nat)) (ks : List Nat), (∀ q ∈ hs.zip ks, q.2 < 4) → rz_go hs ks pc k = some hp → k < 4 := by
  intro hs
  induction hs with
  | nil => intro ks _ h; cases ks <;> cases h
  | cons a t ih =>
    intro ks hq h
    cases ks with
    | nil => cases h
    | cons b ks =>
      rw [rz_go] at h
      by_cases hb : a.1 ≤ pc ∧ pc < a.2.1 ∧ b = k
      · have := hq (a, b) List.mem_cons_self
        rw [← hb.2.2]
        exact this
      · rw [if_neg hb] at h
        exact ih ks (fun q hq' => hq q (List.mem_cons_of_mem _ hq')) h
set_option maxHeartbeats 4000000 in
theorem rz_callW {p : Program} {l : Launch} {e : Env} {R : Room} {s : State} {m : MethodId} {args : Array Value} {below : List Frame} {meth : Method} {c : Code} {H : Heap} {locs : List Loc} {cells slots : Nat} {Q : State → Prop} {M : Nat} {D : va_G} {cI cJ : ClassId} {ad : Nat → Nat} {A : Nat → Prop}
    (hC : rz_Cx p R s m args c M D cI cJ A) (hX : rz_X A s s.heap) (hh : c.exceptionTable.toList.map (fun h => (h.startPc, h.endPc, h.handlerPc, h.catchType)) = rz_hd M)
    {pc len x y z : Nat} {ins : Instr} {L : rz_L} {st : List Value} {w w1 : rz_W} {r : rz_R} {ls : Array Slot} (hcd : rz_code M pc = some (1, ins, len, x, y, z)) (hx112 : x < 112)
    (hy : y ≤ st.length) (hmc : cells + rz_MC x ≤ rz_MC M) (hms : slots + rz_MS x ≤ rz_MS M) (hrecv : rz_recv w x ins (st.take y).reverse = true) (hcat : ((st.drop y).map fun v => v.category).sum ≤ 8)
    (hM : rz_Met l x D cI cJ ad (st.take y).reverse w r w1) (hP : va_P D rz_cl (rz_ws cI cJ ad w) H) (hD : va_D A (rz_ws cI cJ ad w)) (hS : va_S A s.heap H locs) (hL : rz_Lr ad ls (rz_mL M) L)
    (kret : ∀ v, r = .inl v → ∀ (H1 : Heap) (locs1 : List Loc), va_P D rz_cl (rz_ws cI cJ ad w1) H1 → va_D A (rz_ws cI cJ ad w1) → va_S A s.heap H1 locs1 → W p l e R s m args below meth c H1 locs1 (cells + rz_MC x) (slots + rz_MS x) Q (F0 m (pc + 3) ls ((v.toList ++ st.drop y).map (rz_v ad))))
    (kthr : ∀ k, r = .inr k → ∃ hp, rz_go (rz_hd M) (rz_hk M) pc k = some hp ∧ ∀ (H1 : Heap) (locs1 : List Loc) (q : Nat), va_P D rz_cl (rz_ws cI cJ ad w1) H1 → va_D A (rz_ws cI cJ ad w1) → va_S A s.heap H1 locs1 → W p l e R s m args below meth c H1 locs1 (cells + rz_MC x) (slots + rz_MS x) Q (F0 m hp ls [.ref q])) :
    W p l e R s m args below meth c H locs cells slots Q (F0 m pc ls (st.map (rz_v ad))) := by
  obtain ⟨hx, hb, hml, hown, hts, hK, hA, hR⟩ := hC
  obtain ⟨hdg, rfl, hna, hx0, hfr, hlo, hins⟩ := rz_ok1 (rz_all hcd)
  have hmx : rz_mok x = true := rz_mok_of hx0 hx112
  intro T hT X
  subst hT
  have hdg' : decode c.code pc = .ok (ins, 3) := by rw [hb]; exact hdg
  have hlen : ((st.take y).reverse.map (rz_v ad)).length = rz_na x := by simp [← hna, hy]
  have hstk : st.map (rz_v ad) = ((st.take y).reverse.map (rz_v ad)).reverse ++ (st.drop y).map (rz_v ad) := by
    rw [List.map_reverse, List.reverse_reverse, ← List.map_append, List.take_append_drop]
  have hinv : ∃ (mk : MethodId) (vm₁ : Vm), s.methodNamed? (rz_y x) = some mk ∧ Stand p l e R s m args below meth c (T.setVm vm₁) locs cells slots ∧
      ∀ target, Steps p.tables e below (doInvoke e ((T.setVm vm₁).setTop (F0 m pc ls ((st.drop y).map (rz_v ad)))) [] mk ((st.take y).reverse.map (rz_v ad)).toArray).1 target → Steps p.tables e below (T.setTop (F0 m pc ls (st.map (rz_v ad)))) target := by
    rcases hins with ⟨idx, rfl, hst, hlk⟩ | ⟨idx, rfl, hst, hlk⟩
    · rw [hstk]
      exact rz_invS X hx hmx hst hts hown (hts _ hlk) hlen hdg'
    · unfold rz_recv at hrecv
      dsimp only at hrecv
      split at hrecv
      · rename_i i tl hav
        split at hrecv
        · rename_i ci fs hw
          have hci : ci = rz_rc x := of_decide_eq_true hrecv
          obtain ⟨-, -, hcl, -⟩ := rz_mok_vi hmx hst
          cases hq : rz_cl[rz_rc x]? with
          | none => rw [hq] at hcl; cases hcl
          | some q =>
            rw [hq] at hcl
            have hq1 : q.1 = (rz_y x).cls := Option.some.inj hcl
            obtain ⟨cellB, b1, b2, b3⟩ := va_recv hK hP (by rw [hci]; exact hq) (rz_ws_get (cI := cI) (cJ := cJ) (ad := ad) hw)
            rw [hq1] at b3
            rw [hstk, hav]
            rw [hav] at hlen
            have h1 : (tl.map (rz_v ad)).length + 1 = rz_na x := by simpa using hlen
            have h2 := rz_invV X hx hmx hst hts hown (hts _ hlk) (ls := ls) b1 b2 b3 (av := tl.map (rz_v ad)) (rest := (st.drop y).map (rz_v ad)) h1 hdg'
            simpa [rz_v, List.map_cons, List.reverse_cons, List.append_assoc] using h2
        · cases hrecv
      · cases hrecv
  obtain ⟨mk, vm₁, hnamed, X₁, hstep⟩ := hinv
  have hsub : ∀ q, va_A (rz_ws cI cJ ad w) T.heap.size q → A q := fun q h => by
    rcases h with ⟨k, e9, h⟩ | h
    · exact hD.2 k _ h
    · exact hA q (Nat.le_trans hS.1 h)
  have hPc : rz_Pc D cI cJ ad (st.take y).reverse w ((st.take y).reverse.map (rz_v ad)).toArray ((T.setVm vm₁).calling (F0 m pc ls ((st.drop y).map (rz_v ad))) mk ((st.take y).reverse.map (rz_v ad)).toArray) := by
    have hal : s.vm.Alike ((T.setVm vm₁).calling (F0 m pc ls ((st.drop y).map (rz_v ad))) mk ((st.take y).reverse.map (rz_v ad)).toArray).vm := X₁.warmed.alike
    exact ⟨rfl, hP, hD.weaken (fun _ _ _ _ => trivial), va_K.moved hal hK, hX.go (U := (T.setVm vm₁).calling (F0 m pc ls ((st.drop y).map (rz_v ad))) mk ((st.take y).reverse.map (rz_v ad)).toArray) X₁.warmed hS.2.1 (fun q _ hq => by
      obtain ⟨k, e9, h9⟩ := hq
      exact hD.2 k _ h9)⟩
  obtain ⟨o, t, B, Ls, hq, hBh, hBv, hLs, XB, hret, hthr⟩ := rz_back X₁ hts hmx hM hnamed (g := F0 m pc ls ((st.drop y).map (rz_v ad))) (ig := ins) (len := 3) rfl (by rw [hml]; exact hL.1) hdg'
    (by show 2 * 0 + _ ≤ 8; rw [List.map_map, show ((fun v : Value => v.category) ∘ rz_v ad) = (fun v : Value => v.category) from funext fun v => rz_v_cat ad v]; omega)
    (by rw [hR]; exact hfr) (by rw [hR]; exact hlo) (by rw [hR]; exact hmc) (by rw [hR]; exact hms) hPc
  obtain ⟨hP1, hD1, hW1, hF, -, hout⟩ := hq
  have hP1 : va_P D rz_cl (rz_ws cI cJ ad w1) B.heap := by rw [hBh]; exact hP1
  have hD1 : va_D A (rz_ws cI cJ ad w1) := hD1.weaken (fun k q _ h => hsub q.1 h)
  have hS1 : va_S A s.heap B.heap (locs ++ Ls) := by
    rw [hBh]
    refine ⟨Nat.le_trans hS.1 hF.1, fun q h1 h2 => ?_, fun q hq => ?_⟩
    · rw [hF.2 q (Nat.lt_of_lt_of_le h1 hS.1) (fun h => h2 (hsub q h))]
      exact hS.2.1 q h1 h2
    · rcases List.mem_append.mp hq with h | h
      · exact hS.2.2 q h
      · exact hsub _ (hLs q h)
  cases r with
  | inl v =>
    obtain ⟨t', st', q'⟩ := kret v rfl B.heap (locs ++ Ls) hP1 hD1 hS1 B rfl XB
    refine ⟨t', hstep _ ((hret _ hout).trans ?_), q'⟩
    have heq : (v.map (rz_v ad)).toList ++ (st.drop y).map (rz_v ad) = (v.toList ++ st.drop y).map (rz_v ad) := by cases v <;> simp
    show Steps p.tables e below (B.setTop (F0 m (pc + 3) ls ((v.map (rz_v ad)).toList ++ (st.drop y).map (rz_v ad)))) t'
    rw [heq]
    exact st'
  | inr k =>
    obtain ⟨q, ce, ho, hce, hobj, hcls, hself⟩ := hout
    obtain ⟨hp, hgo, kk⟩ := kthr k rfl
    have hM112 : M < 112 := rz_lt hcd
    have hoks := List.all_eq_true.mp rz_hoks M (List.mem_range.mpr hM112)
    have hall : ∀ q ∈ (rz_hd M).zip (rz_hk M), (Cond.classLink (rz_y M).cls q.1.2.2.2 (rz_xn q.2)).before args s = true ∧ q.1.2.2.2 ≠ 0 ∧ q.2 < 4 := fun q hq => by
      have h1 := List.all_eq_true.mp hoks q hq
      simp only [Bool.and_eq_true, decide_eq_true_eq] at h1
      exact ⟨hts _ (rz_use h1.1.1 rfl), h1.1.2, h1.2⟩
    have hal : s.vm.Alike ((T.setVm vm₁).calling (F0 m pc ls ((st.drop y).map (rz_v ad))) mk ((st.take y).reverse.map (rz_v ad)).toArray).vm := X₁.warmed.alike
    rw [hal.findClass] at hcls
    rw [hal.assignable] at hself
    obtain ⟨vm', XC, hst2⟩ := rz_caught XB (g := F0 m pc ls ((st.drop y).map (rz_v ad))) rfl hown (rz_go_lt _ _ (fun q hq => (hall q hq).2.2) hgo) (a := q) (by rw [hBh]; exact hce) hobj hcls hself hX.2.2.2.2 (rz_hk M) (by rw [hh]; exact hall) (by rw [hh]; exact hgo)
    obtain ⟨t', st', q'⟩ := kk B.heap (locs ++ Ls) q hP1 hD1 hS1 (B.setVm vm') rfl XC
    exact ⟨t', hstep _ ((hthr _ ho).trans (hst2 _ st')), q'⟩
