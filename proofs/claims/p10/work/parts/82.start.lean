/-! what holds at the law's entry -/
theorem rz_xp : ∀ i, i < 4 → ∀ j, j < 4 → i ≠ j → Cond.not (Cond.castable (rz_xn i) (rz_xn j)) ∈ flatC (Jvm.Cond.and given_1 narrow_1) := by decide +kernel
theorem rz_X_start {s : State} {args : Array Value} {A : Nat → Prop} (hts : ∀ w ∈ lw_tbl, w.before args s = true) (hgv : (Jvm.Cond.and given_1 narrow_1).before args s = true) (hA : ∀ a : Nat, a < s.heap.size → ¬ A a) : rz_X A s s.heap := by
  have hs := flat_of_before _ hgv
  refine ⟨rz_Zs.of (hts _ (List.mem_of_getElem? (i := 417) (by decide +kernel))) (hs _ (by decide +kernel)) hA, rz_Zs.of (hts _ (List.mem_of_getElem? (i := 419) (by decide +kernel))) (hs _ (by decide +kernel)) hA, fun w hw hx => ?_, fun own tx k hw => ?_, fun i j hi hj hn c c' hc hc' => ?_⟩
  · have h1 := hts w hw
    cases w <;> first | (simp [rz_isX] at hx; done) | exact va_tabs rfl rfl h1
  · have h1 := hts _ hw
    have hcur : ∃ cur, s.vm.findClass own = some cur := by
      have h2 := h1
      simp only [Cond.before, Cond.holds, Cond.value] at h2
      cases hc : s.vm.findClass own with
      | none => simp [hc] at h2
      | some cur => exact ⟨cur, rfl⟩
    obtain ⟨cur, hcur⟩ := hcur
    obtain ⟨-, -, -, a, -, -, -, -, -, he⟩ := Cond.stringRef_spec hcur h1
    exact ⟨a, vk_R.of h1 he⟩
  · have h1 := hs _ (rz_xp i hi j hj hn)
    simp only [Cond.before, Cond.holds, Cond.value, hc, hc'] at h1
    simpa using h1
theorem rz_K_start {s : State} {args : Array Value} (hts : ∀ w ∈ rz_tw, w.before args s = true) : ∃ (D : va_G) (cI cJ : ClassId), va_K D rz_cl (rz_tys cI cJ) s := by
  obtain ⟨c0, i0, h0⟩ := u_known (C := "RowImprover") (T := rz_F0) (N := 5) (n := 5) hts (rz_clw_of (ci := 0) rfl) (hts _ (rz_use (List.mem_of_getElem? (i := 49) (by decide +kernel)) rfl))
  obtain ⟨c1, i1, h1⟩ := u_known (C := "RowImprover$Program") (T := rz_F1) (N := 2) (n := 2) hts (rz_clw_of (ci := 1) rfl) (hts _ (rz_use (List.mem_of_getElem? (i := 57) (by decide +kernel)) rfl))
  obtain ⟨c2, i2, h2⟩ := u_known (C := "RowImprover$Machine") (T := rz_F2) (N := 6) (n := 6) hts (rz_clw_of (ci := 2) rfl) (hts _ (rz_use (List.mem_of_getElem? (i := 71) (by decide +kernel)) rfl))
  obtain ⟨c3, i3, h3⟩ := u_known (C := "RowImprover$Liveness") (T := rz_F3) (N := 1) (n := 1) hts (rz_clw_of (ci := 3) rfl) (hts _ (rz_use (List.mem_of_getElem? (i := 96) (by decide +kernel)) rfl))
  obtain ⟨c4, i4, h4⟩ := u_known (C := "RowImprover$Prover") (T := rz_F4) (N := 3) (n := 3) hts (rz_clw_of (ci := 4) rfl) (hts _ (rz_use (List.mem_of_getElem? (i := 106) (by decide +kernel)) rfl))
  obtain ⟨c5, i5, h5⟩ := u_known (C := "RowImprover$Row") (T := rz_F5) (N := 2) (n := 2) hts (rz_clw_of (ci := 5) rfl) (hts _ (rz_use (List.mem_of_getElem? (i := 112) (by decide +kernel)) rfl))
  obtain ⟨c6, i6, h6⟩ := u_known (C := "RowImprover$Improver") (T := rz_F6) (N := 7) (n := 7) hts (rz_clw_of (ci := 6) rfl) (hts _ (rz_use (List.mem_of_getElem? (i := 135) (by decide +kernel)) rfl))
  obtain ⟨c7, i7, h7⟩ := u_known (C := "RowImproverModel") (T := rz_F7) (N := 16) (n := 16) hts (rz_clw_of (ci := 7) rfl) (hts _ (rz_use (List.mem_of_getElem? (i := 626) (by decide +kernel)) rfl))
  obtain ⟨cI, kI, compI, f1, f2, f3⟩ := Cond.arrayClass_spec (hts _ rk_ai)
  obtain ⟨cJ, kJ, compJ, g1, g2, g3⟩ := Cond.arrayClass_spec (hts _ rk_aj)
  refine ⟨(fun c => match c with
    | 0 => c0
    | 1 => c1
    | 2 => c2
    | 3 => c3
    | 4 => c4
    | 5 => c5
    | 6 => c6
    | _ => c7, fun c => match c with
    | 0 => i0
    | 1 => i1
    | 2 => i2
    | 3 => i3
    | 4 => i4
    | 5 => i5
    | 6 => i6
    | _ => i7), cI, cJ, fun c q hq => ?_, fun k q hk => ?_⟩
  · have hlt : c < 8 := (List.getElem?_eq_some_iff.mp hq).1
    rcases (show c = 0 ∨ c = 1 ∨ c = 2 ∨ c = 3 ∨ c = 4 ∨ c = 5 ∨ c = 6 ∨ c = 7 by omega) with rfl | rfl | rfl | rfl | rfl | rfl | rfl | rfl
    · cases hq; exact h0
    · cases hq; exact h1
    · cases hq; exact h2
    · cases hq; exact h3
    · cases hq; exact h4
    · cases hq; exact h5
    · cases hq; exact h6
    · cases hq; exact h7
  · have hlt : k < 2 := (List.getElem?_eq_some_iff.mp hk).1
    rcases (show k = 0 ∨ k = 1 by omega) with rfl | rfl
    · cases hk; exact ⟨fun n z => ⟨fun k h => (by cases h), kI, f2, compI, f3⟩, f1⟩
    · cases hk; exact ⟨fun n z => ⟨fun k h => (by cases h), kJ, g2, compJ, g3⟩, g1⟩
theorem rz_N_start {s : State} {args : Array Value} (hts : ∀ w ∈ lw_tbl, w.before args s = true) : rz_Nx s := fun w hw hx => by
  have h1 := hts w hw
  cases w <;> first | (simp [rz_isN] at hx; done) | exact va_Nw.of rfl h1
def rz_ad (b : Nat) (l : List Nat) : Nat → Nat := fun i => if i = 999 then b else l.getD i 0
theorem rz_CC0 : rz_CC (fun _ => 0) (fun _ _ => 0) (fun _ => (0, 0, 0, 0)) 0 0 0 0 := ⟨by omega, rfl, fun k hk => absurd hk (Nat.not_lt_zero _), fun k hk => absurd hk (Nat.not_lt_zero _), rfl, rfl, rfl, 0, by omega, rfl⟩
theorem rz_RR0 : rz_RR (fun _ => 0) (fun _ _ => 0) (fun _ => (0, 0, 0, 0)) 0 0 0 0 := ⟨by omega, rfl, fun k hk => absurd hk (Nat.not_lt_zero _), fun k hk => absurd hk (Nat.not_lt_zero _), ⟨0, 0, 0, 0, rfl, rfl, rfl, rfl, by omega, by omega, by omega, by omega, fun _ => by omega⟩, fun _ _ => ⟨0, by omega, rfl⟩, fun _ _ => ⟨0, by omega, rfl⟩, rfl, rfl, rfl⟩
theorem rz_ws_w (cI cJ : ClassId) (ad : Nat → Nat) (v : Nat → Int32) (a : Nat → Nat → Int32) (g : Nat → Int64) : rz_ws cI cJ ad (rz_w v a g) = [(ad 0, .inr (0, [.ref (ad 1), .ref (ad 3), .ref (ad 6), .ref (ad 8), .ref (ad 13)])), (ad 1, .inr (1, [.ref (ad 2), .int (v 0)])), (ad 2, .inl (cI, 24, .inl (a 0))), (ad 3, .inr (2, [.ref (ad 4), .ref (ad 5), .int (v 1), .int (v 2), .int (v 3), .int (v 4)])), (ad 4, .inl (cI, 8, .inl (a 1))), (ad 5, .inl (cI, 8, .inl (a 2))), (ad 6, .inr (3, [.ref (ad 7)])), (ad 7, .inl (cI, 25, .inl (a 3))), (ad 8, .inr (4, [.ref (ad 9), .ref (ad 11), .int (v 5)])), (ad 9, .inr (5, [.ref (ad 10), .int (v 6)])), (ad 10, .inl (cI, 3, .inl (a 4))), (ad 11, .inr (5, [.ref (ad 12), .int (v 7)])), (ad 12, .inl (cI, 3, .inl (a 5))), (ad 13, .inr (6, [.ref (ad 14), .ref (ad 16), .ref (ad 21), .ref (ad 23), .int (v 13), .int (v 14), .int (v 15)])), (ad 14, .inr (3, [.ref (ad 15)])), (ad 15, .inl (cI, 25, .inl (a 6))), (ad 16, .inr (4, [.ref (ad 17), .ref (ad 19), .int (v 8)])), (ad 17, .inr (5, [.ref (ad 18), .int (v 9)])), (ad 18, .inl (cI, 3, .inl (a 7))), (ad 19, .inr (5, [.ref (ad 20), .int (v 10)])), (ad 20, .inl (cI, 3, .inl (a 8))), (ad 21, .inr (5, [.ref (ad 22), .int (v 11)])), (ad 22, .inl (cI, 3, .inl (a 9))), (ad 23, .inr (5, [.ref (ad 24), .int (v 12)])), (ad 24, .inl (cI, 3, .inl (a 10))), (ad 25, .inr (7, [.int (v 20), .int (v 21), .ref (ad 26), .ref (ad 27), .ref (ad 28), .ref (ad 29), .ref (ad 30), .ref (ad 31), .int (v 22), .int (v 23), .ref (ad 32), .ref (ad 33), .ref (ad 34), .int (v 24), .int (v 25), .int (v 26)])), (ad 26, .inl (cI, 25, .inl (a 20))), (ad 27, .inl (cI, 25, .inl (a 21))), (ad 28, .inl (cI, 25, .inl (a 22))), (ad 29, .inl (cI, 25, .inl (a 23))), (ad 30, .inl (cI, 12, .inl (a 24))), (ad 31, .inl (cI, 12, .inl (a 25))), (ad 32, .inl (cI, 25, .inl (a 26))), (ad 33, .inl (cI, 4, .inl (a 27))), (ad 34, .inl (cI, 4, .inl (a 28))), (ad 35, .inl (cJ, 1, .inr (.inl g)))] := by
  simp [rz_ws, rz_w, rz_e, rz_v]
