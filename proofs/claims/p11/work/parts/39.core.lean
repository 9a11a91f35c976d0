/-! the abstract machine is sound -/
theorem rz_ok4 {M pc len x y z : Nat} {ins : Instr} (h : rz_ok M pc (4, ins, len, x, y, z) = true) : decode (rz_by M) pc = .ok (ins, len) ∧ len = rz_ln ins :=
  ⟨of_decide_eq_true (Bool.and_eq_true_iff.mp h).1, of_decide_eq_true (Bool.and_eq_true_iff.mp (Bool.and_eq_true_iff.mp h).2).1⟩
theorem rz_ok5 {M pc len x y z : Nat} {ins : Instr} (h : rz_ok M pc (5, ins, len, x, y, z) = true) : ∃ idx, decode (rz_by M) pc = .ok (.invokestatic idx, 3) ∧ len = 3 ∧ Cond.methodLink (rz_y M).cls idx arraycopyName ∈ rz_tw ∧ 1 ≤ rz_fr M ∧ 40 ≤ rz_lo M := by
  have hd1 : decode (rz_by M) pc = .ok (ins, len) := of_decide_eq_true (Bool.and_eq_true_iff.mp h).1
  have b := (Bool.and_eq_true_iff.mp h).2
  have a4 := (Bool.and_eq_true_iff.mp b).2
  have b1 := (Bool.and_eq_true_iff.mp b).1
  have a3 := (Bool.and_eq_true_iff.mp b1).2
  have b2 := (Bool.and_eq_true_iff.mp b1).1
  have a1 : len = 3 := of_decide_eq_true (Bool.and_eq_true_iff.mp b2).1
  have a2 := (Bool.and_eq_true_iff.mp b2).2
  cases ins <;> first | exact absurd (show false = true from a2) (by decide) | skip
  exact ⟨_, by rw [hd1, a1], a1, rz_use (rz_wd_in a2) rfl, of_decide_eq_true a3, of_decide_eq_true a4⟩
theorem rz_ok6 {M pc len x y z : Nat} {ins : Instr} (h : rz_ok M pc (6, ins, len, x, y, z) = true) : ∃ idx, decode (rz_by M) pc = .ok (.invokestatic idx, 3) ∧ len = 3 ∧ Cond.methodLink (rz_y M).cls idx Lib.Math.min.name ∈ rz_tw ∧ 1 ≤ rz_fr M ∧ 21 ≤ rz_lo M := by
  have hd1 : decode (rz_by M) pc = .ok (ins, len) := of_decide_eq_true (Bool.and_eq_true_iff.mp h).1
  have b := (Bool.and_eq_true_iff.mp h).2
  have a4 := (Bool.and_eq_true_iff.mp b).2
  have b1 := (Bool.and_eq_true_iff.mp b).1
  have a3 := (Bool.and_eq_true_iff.mp b1).2
  have b2 := (Bool.and_eq_true_iff.mp b1).1
  have a1 : len = 3 := of_decide_eq_true (Bool.and_eq_true_iff.mp b2).1
  have a2 := (Bool.and_eq_true_iff.mp b2).2
  cases ins <;> first | exact absurd (show false = true from a2) (by decide) | skip
  exact ⟨_, by rw [hd1, a1], a1, rz_use (rz_wd_in a2) rfl, of_decide_eq_true a3, of_decide_eq_true a4⟩
theorem rz_ok7 {M pc len x y z : Nat} {ins : Instr} (h : rz_ok M pc (7, ins, len, x, y, z) = true) : decode (rz_by M) pc = .ok (ins, len) ∧ len = rz_ln ins :=
  ⟨of_decide_eq_true (Bool.and_eq_true_iff.mp h).1, of_decide_eq_true (Bool.and_eq_true_iff.mp h).2⟩
theorem rz_run_code {xs : Nat → Int32} {xl n M pc kc ks : Nat} {L : rz_L} {st : List Value} {w : rz_W} {q : rz_R × rz_W} (h : rz_run xs xl n M pc L st w kc ks = some q) : M < 112 := by
  cases n with
  | zero => cases h
  | succ n =>
    rw [rz_run] at h
    cases hc : rz_code M pc with
    | none => rw [hc] at h; cases h
    | some q => exact rz_lt hc
set_option maxRecDepth 100000 in
theorem rz_hbs : (List.range 112).all (fun M => (rz_T M).all (fun e => match e.2 with
  | (7, .astore_n i, _) => decide ((i : Nat) < rz_mL M)
  | (7, .astore i, _) => decide (i < rz_mL M)
  | _ => true)) = true := by decide +kernel
theorem rz_hbound {M pc len x y z : Nat} {i : Fin 4} (h : rz_code M pc = some (7, .astore_n i, len, x, y, z)) : (i : Nat) < rz_mL M :=
  of_decide_eq_true (List.all_eq_true.mp (List.all_eq_true.mp rz_hbs M (List.mem_range.mpr (rz_lt h))) (pc, (7, .astore_n i, len, x, y, z)) (rz_lookup h))
theorem rz_hbound2 {M pc len x y z i : Nat} (h : rz_code M pc = some (7, .astore i, len, x, y, z)) : i < rz_mL M :=
  of_decide_eq_true (List.all_eq_true.mp (List.all_eq_true.mp rz_hbs M (List.mem_range.mpr (rz_lt h))) (pc, (7, .astore i, len, x, y, z)) (rz_lookup h))
set_option maxHeartbeats 8000000 in
theorem rz_sound {l : Launch} (hl : l.stackTraces = false) (xs : Nat → Int32) (xl : Nat) (D : va_G) (cI cJ : ClassId) (ad : Nat → Nat) : ∀ n, rz_FR l xs xl D cI cJ ad n := by
  intro n
  induction n with
  | zero => intro M pc L st w kc ks r w' h; cases h
  | succ n ih =>
    intro M pc L st w kc ks r w' h p e R s m args below meth c A Q H locs ls hC hX hh hscr hP hD hS hL hkc hks hend
    rw [rz_run] at h
    cases hcd : rz_code M pc with
    | none => rw [hcd] at h; cases h
    | some q =>
      obtain ⟨kd, ins, len, x, y, z⟩ := q
      rw [hcd] at h
      dsimp only at h
      split at h
      · -- pure
        split at h
        · rename_i pc' L' st' w1 hp
          exact rz_pure_ok hcd hp hC hP hD hS hL (fun ls' H' locs' hL' hP' hD' hS' => ih M pc' L' st' w1 kc ks r w' h p e R s m args below meth c A Q H' locs' ls' hC hX hh hscr hP' hD' hS' hL' hkc hks hend)
        · cases h
      · -- call
        split at h
        · rename_i hcond
          obtain ⟨c1, c2, c3, c4, c5, c6⟩ := hcond
          obtain ⟨-, hlen3, hna, hx0, -, -, -⟩ := rz_ok1 (rz_all hcd)
          have hcats : ∀ v ∈ (st.take y).reverse, v.category = 1 := fun v hv => of_decide_eq_true (List.all_eq_true.mp c6 v (List.mem_reverse.mp hv))
          have hlenA : (st.take y).reverse.length = rz_na x := by simp [← hna, c1]
          subst hlen3
          split at h
          · rename_i v w1 hr1
            have hM := rz_met_of hl ih hx0 (rz_run_code hr1) hr1 hlenA hcats
            refine rz_callW hC hX hh hcd (rz_run_code hr1) c1 c2 c3 c4 c5 hM hP hD hS hL ?_ (fun k hk => by cases hk)
            intro v' hv' H1 locs1 hP1 hD1 hS1
            cases hv'
            exact ih M (pc + 3) L (v.toList ++ st.drop y) w1 _ _ r w' h p e R s m args below meth c A Q H1 locs1 ls hC hX hh hscr hP1 hD1 hS1 hL c2 c3 hend
          · rename_i k w1 hr1
            split at h
            · rename_i hp i hhnd
              have hM := rz_met_of hl ih hx0 (rz_run_code hr1) hr1 hlenA hcats
              refine rz_callW hC hX hh hcd (rz_run_code hr1) c1 c2 c3 c4 c5 hM hP hD hS hL (fun v hv => by cases hv) ?_
              intro k' hk'
              cases hk'
              unfold rz_hnd at hhnd
              split at hhnd
              · cases hhnd
              · rename_i hp0 hgo
                obtain ⟨hx, hb, hml, hown, hts, hK, hA, hR⟩ := id hC
                split at hhnd
                · rename_i i0 len0 _ _ _ hc7
                  cases hhnd
                  obtain ⟨hd7, hl7⟩ := rz_ok7 (rz_all hc7)
                  replace hl7 : len0 = 1 := hl7
                  subst hl7
                  refine ⟨hp0, hgo, fun H1 locs1 q hP1 hD1 hS1 => ?_⟩
                  refine lv_astore_n hx hb hd7 rfl hL.has ?_ rfl (fun ls' h' => ?_)
                  · exact rz_hbound hc7
                  · exact ih M (hp0 + 1) _ [] w1 _ _ r w' h p e R s m args below meth c A Q H1 locs1 ls' hC hX hh hscr hP1 hD1 hS1 (hL.drop h') c2 c3 hend
                · rename_i i0 len0 _ _ _ hc7
                  cases hhnd
                  obtain ⟨hd7, hl7⟩ := rz_ok7 (rz_all hc7)
                  replace hl7 : len0 = 2 := hl7
                  subst hl7
                  refine ⟨hp0, hgo, fun H1 locs1 q hP1 hD1 hS1 => ?_⟩
                  refine lv_astore hx hb hd7 hL.has ?_ rfl (fun ls' h' => ?_)
                  · exact rz_hbound2 hc7
                  · exact ih M (hp0 + 2) _ [] w1 _ _ r w' h p e R s m args below meth c A Q H1 locs1 ls' hC hX hh hscr hP1 hD1 hS1 (hL.drop h') c2 c3 hend
                · cases hhnd
            · cases h
          · cases h
        · cases h
      · -- return
        split at h
        · rename_i v hv
          cases h
          exact hend pc ins len x y z 2 st ls H locs kc ks hcd (Or.inl ⟨rfl, v, hv, rfl⟩) hL.1 hkc hks hP hD hS
        · cases h
      · -- throw
        split at h
        · rename_i hcond
          obtain ⟨rfl, c2, c3⟩ := hcond
          cases h
          exact hend pc ins len x y z 3 [] ls H locs kc ks hcd (Or.inr ⟨rfl, rfl, rfl, c2, c3⟩) hL.1 hkc hks hP hD hS
        · cases h
      · -- the script
        split at h
        · rename_i hM0
          obtain ⟨hx, hb, hml, hown, hts, hK, hA, hR⟩ := id hC
          obtain ⟨s1, s2, s3⟩ := hscr hM0
          obtain ⟨hdg, hln⟩ := rz_ok4 (rz_all hcd)
          split at h
          · split at h
            · rename_i j rr hin
              replace hln : len = 1 := hln
              subst hln
              exact va_sld hx hb s1 s2 s3 hS hin hdg (ih M (pc + 1) L _ w kc ks r w' h p e R s m args below meth c A Q H locs ls hC hX hh hscr hP hD hS hL hkc hks hend)
            · cases h
          · replace hln : len = 1 := hln
            subst hln
            exact va_slen hx hb s1 s2 s3 hS hdg (ih M (pc + 1) L _ w kc ks r w' h p e R s m args below meth c A Q H locs ls hC hX hh hscr hP hD hS hL hkc hks hend)
          · cases h
        · cases h
      · -- arraycopy
        split at h
        · split at h
          · split at h
            · rename_i cn dp d sp s0 rr _ _ k0 n0 f k1 n1 g hw0 hw1 hcond
              obtain ⟨rfl, rfl, hsd, rfl, rfl, rfl, rfl, rfl, rfl⟩ := hcond
              obtain ⟨hx, hb, hml, hown, hts, hK, hA, hR⟩ := id hC
              obtain ⟨idx, hdg, hln, hlk, hf1, hl1⟩ := rz_ok5 (rz_all hcd)
              subst hln
              have hnf : nativeFrameWords "java/lang/System" "arraycopy" 5 + 11 = 18 := by decide +kernel
              exact va_copyi hx hb (by rw [hml]; exact hL.1.symm) hown (hts _ hlk) (hts _ (rz_use rz_fx4 rfl)) (hts _ (rz_use rz_fx5 rfl)) (hts _ (rz_use rz_fx6 rfl)) hK hP hD hS s0 d 0 0 (a0 := ad s0) (c0 := cI) (c1 := cI) (n0 := 8) (n1 := 8) (f := f) (g := g) (ty := .int) (rz_ws_get hw0) (rz_ws_get hw1) rfl rfl rfl
                (sp := 0) (dp := 0) (n := 8) (by decide) (by decide) (by decide) (by decide) (by decide) (fun i _ => rfl) (by rw [hR]; exact hf1) (by rw [hR]; show 0 + (nativeFrameWords "java/lang/System" "arraycopy" 5 + 11) ≤ rz_lo M; rw [hnf]; omega) hdg
                (fun H1 locs1 h1 h2 h3 => ih M (pc + 3) L [] _ kc ks r w' h p e R s m args below meth c A Q H1 locs1 ls hC hX hh hscr (by rw [rz_ws_set]; exact h1) (by rw [rz_ws_set]; exact h2) h3 hL hkc hks hend)
            · cases h
          · cases h
        · cases h
      · -- min
        split at h
        · split at h
          · rename_i b a rr hcat
            obtain ⟨hx, hb, hml, hown, hts, hK, hA, hR⟩ := id hC
            obtain ⟨idx, hdg, hln, hlk, hf1, hl1⟩ := rz_ok6 (rz_all hcd)
            subst hln
            exact va_mmin hx hb (by rw [hml]; exact hL.1.symm) hown (hts _ hlk) (hts _ (rz_use rz_fx2 rfl)) (hts _ (rz_use rz_fx3 rfl)) (hts _ (rz_use rz_fx1 rfl)) (by rw [hR]; exact hf1)
              (by rw [List.map_map, show ((fun v : Value => v.category) ∘ rz_v ad) = (fun v : Value => v.category) from funext fun v => rz_v_cat ad v, hR]; show _ ≤ rz_lo M; omega) (by rw [hR]; exact hkc) (by rw [hR]; exact hks) hdg
              (ih M (pc + 3) L _ w kc ks r w' h p e R s m args below meth c A Q H locs ls hC hX hh hscr hP hD hS hL hkc hks hend)
          · cases h
        · cases h
      · cases h
