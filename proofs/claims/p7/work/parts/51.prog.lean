/-! the class's Program (place 1; its array at 2): v 0 is its length -/
section RZP1
variable {xs : Nat → Int32} {xl : Nat} {v : Nat → Int32} {a : Nat → Nat → Int32} {g : Nat → Int64}
def rz_bo (w : rz_W) (P : Prop) : rz_R → rz_W → Prop := fun q w' => (∃ u : Int32, (u = 0 ∨ u = 1) ∧ (u = 1 → P) ∧ q = .inl (some (.int u))) ∧ w' = w
theorem rz_bo0 {w : rz_W} {P : Prop} : rz_bo w P (.inl (some (.int 0))) w := ⟨⟨0, Or.inl rfl, fun h => absurd h (by decide), rfl⟩, rfl⟩
theorem rz_bo1 {w : rz_W} {P : Prop} (h : P) : rz_bo w P (.inl (some (.int 1))) w := ⟨⟨1, Or.inr rfl, fun _ => h, rfl⟩, rfl⟩
theorem c_length : rz_C xs xl 4 [.ref 1] (rz_w v a g) (fun r w' => r = .inl (some (.int (v 0))) ∧ w' = rz_w v a g) :=
  ev_ps 2 rfl (ev_ret rfl rfl ⟨rfl, rfl⟩)
theorem c_empty : rz_C xs xl 2 [.ref 1] (rz_w v a g) (fun r w' => r = .inl (some (.int (v 0))) ∧ w' = rz_w (rz_up v 0 0) a g) := by
  refine ev_ps 6 rfl ?_
  exact ev_ps 1 rfl (ev_ret rfl rfl ⟨rfl, rfl⟩)
theorem c_has (x : Int32) : rz_C xs xl 21 [.ref 1, .int x] (rz_w v a g) (rz_bo (rz_w v a g) (¬ x < 0 ∧ x < v 0)) := by
  refine ev_ps 1 rfl (ev_if (cd := .lt) rfl (fun h1 => ?_) (fun h1 => ?_))
  · exact ev_ps 1 rfl (ev_ret rfl rfl rz_bo0)
  · refine ev_ps 3 rfl (ev_ic (cd := .ge) rfl (fun h2 => ?_) (fun h2 => ?_))
    · exact ev_ps 1 rfl (ev_ret rfl rfl rz_bo0)
    · exact ev_ps 2 rfl (ev_ret rfl rfl (rz_bo1 ⟨rc_lt_f h1, Int32.not_le.mp (rc_ge_f h2)⟩))
theorem c_hasAll (x n : Int32) : rz_C xs xl 24 [.ref 1, .int x, .int n] (rz_w v a g) (rz_bo (rz_w v a g) (n = 0 ∨ (¬ x < 0 ∧ ¬ v 0 - n < x))) := by
  refine ev_ps 1 rfl (ev_if (cd := .eq) rfl (fun h1 => ?_) (fun h1 => ?_))
  · exact ev_ps 2 rfl (ev_ret rfl rfl (rz_bo1 (Or.inl (rc_eq_t h1))))
  · refine ev_ps 1 rfl (ev_if (cd := .lt) rfl (fun h2 => ?_) (fun h2 => ?_))
    · exact ev_ps 1 rfl (ev_ret rfl rfl rz_bo0)
    · refine ev_ps 5 rfl (ev_ic (cd := .gt) rfl (fun h3 => ?_) (fun h3 => ?_))
      · exact ev_ps 1 rfl (ev_ret rfl rfl rz_bo0)
      · exact ev_ps 2 rfl (ev_ret rfl rfl (rz_bo1 (Or.inr ⟨rc_lt_f h2, rc_gt_f h3⟩)))
theorem c_isFull : rz_C xs xl 53 [.ref 1] (rz_w v a g) (fun q w' => (∃ u : Int32, (u = 0 ∨ u = 1) ∧ (u = 0 → v 0 < 24) ∧ q = .inl (some (.int u))) ∧ w' = rz_w v a g) := by
  refine ev_ps 3 rfl (ev_ic (cd := .lt) rfl (fun h1 => ?_) (fun h1 => ?_))
  · exact ev_ps 1 rfl (ev_ret rfl rfl ⟨⟨0, Or.inl rfl, fun _ => rc_lt_t h1, rfl⟩, rfl⟩)
  · exact ev_ps 2 rfl (ev_ret rfl rfl ⟨⟨1, Or.inr rfl, fun h => absurd h (by decide), rfl⟩, rfl⟩)
theorem c_codeAt {k : Nat} (hk : k < 24) : rz_C xs xl 13 [.ref 1, .int (Int32.ofNat k)] (rz_w v a g) (fun r w' => (∃ u, r = .inl (some (.int u))) ∧ w' = rz_w v a g) := by
  refine ev_ps 3 rfl (ev_ald rfl rfl (rz_in hk (by decide)) ?_)
  exact ev_ret rfl rfl ⟨⟨_, rfl⟩, rfl⟩
theorem c_append {n : Nat} (x : Int32) (hv : v 0 = Int32.ofNat n) (hn : n < 24) : rz_C xs xl 54 [.ref 1, .int x] (rz_w v a g) (fun r w' => (∃ u, r = .inl (some (.int u))) ∧ ∃ f, w' = rz_w (rz_up v 0 (v 0 + 1)) (rz_ua a 0 f) g) := by
  refine ev_ps 5 rfl (ev_ast rfl rfl (by rw [hv]; exact rz_in hn (by decide)) ?_)
  refine ev_w (w2 := rz_w v (rz_ua a 0 (upd (a 0) (v 0).toNatClampNeg x)) g) rfl ?_
  refine ev_ps 6 rfl ?_
  exact ev_ps 4 rfl (ev_ret rfl rfl ⟨⟨_, rfl⟩, _, rfl⟩)
theorem c_put {k : Nat} (x : Int32) (hk : k < 24) : rz_C xs xl 56 [.ref 1, .int (Int32.ofNat k), .int x] (rz_w v a g) (fun r w' => r = .inl none ∧ ∃ f, w' = rz_w v (rz_ua a 0 f) g) := by
  refine ev_ps 4 rfl (ev_ast rfl rfl (rz_in hk (by decide)) ?_)
  exact ev_ret rfl rfl ⟨rfl, _, rfl⟩
theorem c_allPlain {p n : Nat} (hpn : p + n ≤ 24) : rz_C xs xl 25 [.ref 1, .int (Int32.ofNat p), .int (Int32.ofNat n)] (rz_w v a g) (rz_bo (rz_w v a g) True) := by
  refine ev_ps 2 rfl ?_
  refine ev_loop (α := Nat) (fun k => n - k) (fun k => k ≤ n) (fun k => [some (.ref 1), some (.int (Int32.ofNat p)), some (.int (Int32.ofNat n)), some (.int (Int32.ofNat k))]) (fun _ => []) (fun _ => rz_w v a g) ?_ 0 (Nat.zero_le _)
  intro k hk ih
  refine ev_ps 2 rfl (ev_ic (cd := .ge) rfl (fun h => ?_) (fun h => ?_))
  · exact ev_ps 1 rfl (ev_ret rfl rfl (rz_bo1 trivial))
  · have hk' : k < n := rn_ge_f (by omega) (by omega) h
    refine ev_ps 5 rfl (ev_ald rfl rfl (by rw [rz_add]; exact rz_in (by omega) (by decide)) ?_)
    refine ev_call (av := [_]) rfl rfl rfl rfl ⟨Nat.le_of_ble_eq_true rfl, rfl⟩ ⟨Nat.le_of_ble_eq_true rfl, Nat.le_of_ble_eq_true rfl⟩ (c_isPlain _) ?_
    rintro _ _ ⟨⟨u, hu, rfl⟩, rfl⟩
    refine ev_if (cd := .ne) rfl (fun h2 => ?_) (fun h2 => ?_)
    · have h9 := ih (k + 1) (by omega) (by omega)
      rw [← rz_succ k] at h9
      exact ev_ps 2 rfl h9
    · exact ev_ps 1 rfl (ev_ret rfl rfl rz_bo0)
/-- a row of none, wherever -/
theorem c_allPlain0 (x : Int32) : rz_C xs xl 25 [.ref 1, .int x, .int 0] (rz_w v a g) (rz_bo (rz_w v a g) True) := by
  refine ev_ps 4 rfl (ev_ic (cd := .ge) rfl (fun h => ?_) (fun h => ?_))
  · exact ev_ps 1 rfl (ev_ret rfl rfl (rz_bo1 trivial))
  · exact absurd (by decide : (0 : Int32) ≤ 0) (rc_ge_f h)
theorem c_beginsBlock {p n : Nat} (hv : v 0 = Int32.ofNat n) (hn : n ≤ 24) (hp : p ≤ 24) : rz_C xs xl 27 [.ref 1, .int (Int32.ofNat p)] (rz_w v a g) (rz_bo (rz_w v a g) True) := by
  have loop : rz_E xs xl 27 22 [some (.ref 1), some (.int (Int32.ofNat p)), some (.int (Int32.ofNat 0))] [] (rz_w v a g) 0 0 (rz_bo (rz_w v a g) True) := by
    refine ev_loop (α := Nat) (fun k => n - k) (fun k => k ≤ n) (fun k => [some (.ref 1), some (.int (Int32.ofNat p)), some (.int (Int32.ofNat k))]) (fun _ => []) (fun _ => rz_w v a g) ?_ 0 (Nat.zero_le _)
    intro k hk ih
    have next : rz_E xs xl 27 57 [some (.ref 1), some (.int (Int32.ofNat p)), some (.int (Int32.ofNat k))] [] (rz_w v a g) 0 0 (rz_bo (rz_w v a g) True) ∨ n ≤ k := by
      by_cases hkn : k < n
      · have h9 := ih (k + 1) (by omega) (by omega)
        rw [← rz_succ k] at h9
        exact Or.inl (ev_ps 2 rfl h9)
      · exact Or.inr (by omega)
    refine ev_ps 3 rfl (ev_ic (cd := .ge) rfl (fun h => ?_) (fun h => ?_))
    · exact ev_ps 1 rfl (ev_ret rfl rfl rz_bo0)
    · rw [hv] at h
      have hk' : k < n := rn_ge_f (by omega) (by omega) h
      have next := next.resolve_right (by omega)
      refine ev_ps 3 rfl (ev_ald rfl rfl (rz_in (by omega) (by decide)) ?_)
      refine ev_call (av := [_]) rfl rfl rfl rfl ⟨Nat.le_of_ble_eq_true rfl, rfl⟩ ⟨Nat.le_of_ble_eq_true rfl, Nat.le_of_ble_eq_true rfl⟩ (c_hasTarget _) ?_
      rintro _ _ ⟨⟨u, hu, rfl⟩, rfl⟩
      refine ev_if (cd := .eq) rfl (fun h2 => next) (fun h2 => ?_)
      refine ev_ps 3 rfl (ev_ald rfl rfl (rz_in (by omega) (by decide)) ?_)
      refine ev_call (av := [_]) rfl rfl rfl rfl ⟨Nat.le_of_ble_eq_true rfl, rfl⟩ ⟨Nat.le_of_ble_eq_true rfl, Nat.le_of_ble_eq_true rfl⟩ (c_t _) ?_
      rintro _ _ ⟨rfl, rfl⟩
      refine ev_ps 1 rfl (ev_ic (cd := .ne) rfl (fun h2 => next) (fun h2 => ?_))
      exact ev_ps 1 rfl (ev_ret rfl rfl (rz_bo1 trivial))
  refine ev_ps 1 rfl (ev_if (cd := .eq) rfl (fun h1 => ?_) (fun h1 => ?_))
  · exact ev_ps 1 rfl (ev_ret rfl rfl (rz_bo1 trivial))
  · have hp0 : 0 < p := by
      rcases Nat.eq_zero_or_pos p with rfl | h
      · exact absurd rfl (rc_eq_f h1)
      · exact h
    have e : Int32.ofNat p - 1 = Int32.ofNat (p - 1) := rz_sub (n := 1) hp0
    refine ev_ps 5 rfl (ev_ald rfl rfl (by rw [show Int32.ofNat p - Int32.ofInt 1 = Int32.ofNat (p - 1) from e]; exact rz_in (by omega) (by decide)) ?_)
    refine ev_call (av := [_]) rfl rfl rfl rfl ⟨Nat.le_of_ble_eq_true rfl, rfl⟩ ⟨Nat.le_of_ble_eq_true rfl, Nat.le_of_ble_eq_true rfl⟩ (c_endsBlock _) ?_
    rintro _ _ ⟨⟨u, hu, rfl⟩, rfl⟩
    refine ev_if (cd := .eq) rfl (fun h2 => ?_) (fun h2 => ?_)
    · exact ev_ps 2 rfl loop
    · exact ev_ps 1 rfl (ev_ret rfl rfl (rz_bo1 trivial))
end RZP1
