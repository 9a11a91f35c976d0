/-! Program's writers, and rows, liveness, provers at each of their places -/
section RZP2
variable {xs : Nat → Int32} {xl : Nat} {v : Nat → Int32} {a : Nat → Nat → Int32} {g : Nat → Int64}
theorem c_hasRow {p n m : Nat} (hv : v 0 = Int32.ofNat m) (hm : m ≤ 24) (hp : p ≤ 24) (hn : n ≤ 3) (hn1 : 1 ≤ n) : rz_C xs xl 23 [.ref 1, .int (Int32.ofNat p), .int (Int32.ofNat n)] (rz_w v a g) (rz_bo (rz_w v a g) (p + n ≤ m)) := by
  refine ev_ps 3 rfl (ev_call (av := [_, _, _]) rfl rfl rfl rfl ⟨Nat.le_of_ble_eq_true rfl, rfl⟩ ⟨Nat.le_of_ble_eq_true rfl, Nat.le_of_ble_eq_true rfl⟩ (c_hasAll _ _) ?_)
  rintro _ _ ⟨⟨u, hu, hP, rfl⟩, rfl⟩
  refine ev_if (cd := .eq) rfl (fun h1 => ?_) (fun h1 => ?_)
  · exact ev_ps 1 rfl (ev_ret rfl rfl rz_bo0)
  · have hle : p + n ≤ m := by
      rcases hP (hu.resolve_left (rc_eq_f h1)) with h | ⟨-, h⟩
      · have : n = 0 := (rz_eq_iff (k := 0) (by omega) (by omega)).mp h
        omega
      · rw [hv] at h
        by_cases hmn : n ≤ m
        · rw [rz_sub hmn, rz_lt_iff (by omega) (by omega)] at h
          omega
        · exfalso
          apply h
          have e : Int32.ofNat m - Int32.ofNat n < 0 := by
            have : ∀ m' < 25, ∀ n' < 4, m' < n' → Int32.ofNat m' - Int32.ofNat n' < 0 := by decide +kernel
            exact this m (by omega) n (by omega) (by omega)
          have e2 : ¬ Int32.ofNat p < Int32.ofNat 0 := by rw [rz_lt_iff (by omega) (by omega)]; omega
          exact Int32.lt_of_lt_of_le e (Int32.not_lt.mp e2)
    refine ev_ps 3 rfl (ev_call (av := [_, _, _]) rfl rfl rfl rfl ⟨Nat.le_of_ble_eq_true rfl, rfl⟩ ⟨Nat.le_of_ble_eq_true rfl, Nat.le_of_ble_eq_true rfl⟩ (c_allPlain (by omega)) ?_)
    rintro _ _ ⟨⟨u, hu, hP, rfl⟩, rfl⟩
    refine ev_if (cd := .ne) rfl (fun h2 => ?_) (fun h2 => ?_)
    · refine ev_ps 2 rfl ?_
      refine ev_loop (α := Nat) (fun k => n - k) (fun k => 1 ≤ k ∧ k ≤ n) (fun k => [some (.ref 1), some (.int (Int32.ofNat p)), some (.int (Int32.ofNat n)), some (.int (Int32.ofNat k))]) (fun _ => []) (fun _ => rz_w v a g) ?_ 1 ⟨Nat.le_refl _, hn1⟩
      intro k hk ih
      refine ev_ps 2 rfl (ev_ic (cd := .ge) rfl (fun h => ?_) (fun h => ?_))
      · exact ev_ps 1 rfl (ev_ret rfl rfl (rz_bo1 hle))
      · have hk' : k < n := rn_ge_f (by omega) (by omega) h
        refine ev_ps 4 rfl ?_
        refine ev_call (av := [.ref 1, .int (Int32.ofNat (p + k))]) rfl (by rw [← rz_add]; rfl) rfl rfl ⟨Nat.le_of_ble_eq_true rfl, rfl⟩ ⟨Nat.le_of_ble_eq_true rfl, Nat.le_of_ble_eq_true rfl⟩ (c_beginsBlock hv hm (by omega)) ?_
        rintro _ _ ⟨⟨u, hu, -, rfl⟩, rfl⟩
        refine ev_if (cd := .eq) rfl (fun h2 => ?_) (fun h2 => ?_)
        · have h9 := ih (k + 1) ⟨by omega, by omega⟩ (by omega)
          rw [← rz_succ k] at h9
          exact ev_ps 2 rfl h9
        · exact ev_ps 1 rfl (ev_ret rfl rfl rz_bo0)
    · exact ev_ps 1 rfl (ev_ret rfl rfl rz_bo0)
theorem c_beginOfBlock {p n : Nat} (hv : v 0 = Int32.ofNat n) (hn : n ≤ 24) (hp : p ≤ 24) : rz_C xs xl 67 [.ref 1, .int (Int32.ofNat p)] (rz_w v a g) (fun q w' => (∃ u, q = .inl (some (.int u))) ∧ w' = rz_w v a g) := by
  refine ev_ps 2 rfl ?_
  refine ev_loop (α := Nat) (fun k => k) (fun k => k ≤ 24) (fun k => [some (.ref 1), some (.int (Int32.ofNat p)), some (.int (Int32.ofNat k))]) (fun _ => []) (fun _ => rz_w v a g) ?_ p hp
  intro k hk ih
  refine ev_ps 1 rfl (ev_if (cd := .le) rfl (fun h => ?_) (fun h => ?_))
  · exact ev_ps 1 rfl (ev_ret rfl rfl ⟨⟨_, rfl⟩, rfl⟩)
  · have hk0 : 0 < k := rn_le_f (k := 0) (by omega) (by omega) h
    refine ev_ps 2 rfl (ev_call (av := [_, _]) rfl rfl rfl rfl ⟨Nat.le_of_ble_eq_true rfl, rfl⟩ ⟨Nat.le_of_ble_eq_true rfl, Nat.le_of_ble_eq_true rfl⟩ (c_beginsBlock hv hn hk) ?_)
    rintro _ _ ⟨⟨u, hu, -, rfl⟩, rfl⟩
    refine ev_if (cd := .ne) rfl (fun h2 => ?_) (fun h2 => ?_)
    · exact ev_ps 1 rfl (ev_ret rfl rfl ⟨⟨_, rfl⟩, rfl⟩)
    · have h9 := ih (k - 1) (by omega) (by omega)
      rw [← rz_sub (k := k) (n := 1) hk0, show Int32.ofNat k - Int32.ofNat 1 = Int32.ofNat k + Int32.ofInt (-1) from Int32.sub_eq_add_neg _ _] at h9
      exact ev_ps 2 rfl h9
theorem c_moveTargets {n : Nat} (x y : Int32) (hv : v 0 = Int32.ofNat n) (hn : n ≤ 24) : rz_C xs xl 46 [.ref 1, .int x, .int y] (rz_w v a g) (fun q w' => q = .inl none ∧ ∃ f, w' = rz_w v (rz_ua a 0 f) g) := by
  refine ev_ps 2 rfl ?_
  suffices H : ∀ (t : Option Value), rz_E xs xl 46 2 [some (.ref 1), some (.int x), some (.int y), some (.int (Int32.ofNat 0)), t] [] (rz_w v (rz_ua a 0 (a 0)) g) 0 0 (fun q w' => q = .inl none ∧ ∃ f, w' = rz_w v (rz_ua a 0 f) g) from H none
  intro t
  refine ev_loop (α := Nat × Option Value × (Nat → Int32)) (fun q => n - q.1) (fun q => q.1 ≤ n) (fun q => [some (.ref 1), some (.int x), some (.int y), some (.int (Int32.ofNat q.1)), q.2.1]) (fun _ => []) (fun q => rz_w v (rz_ua a 0 q.2.2) g) ?_ (0, t, a 0) (Nat.zero_le _)
  rintro ⟨k, t, f⟩ hk ih
  dsimp only at hk ih ⊢
  have next : k < n → ∀ (t : Int32) (f : Nat → Int32), rz_E xs xl 46 58 [some (.ref 1), some (.int x), some (.int y), some (.int (Int32.ofNat k)), some (.int t)] [] (rz_w v (rz_ua a 0 f) g) 0 0 (fun q w' => q = .inl none ∧ ∃ f, w' = rz_w v (rz_ua a 0 f) g) := by
    intro hkn t f
    have h9 := ih (k + 1, some (.int t), f) (by show k + 1 ≤ n; omega) (by show n - (k + 1) < n - k; omega)
    dsimp only at h9
    rw [← rz_succ k] at h9
    exact ev_ps 2 rfl h9
  refine ev_ps 3 rfl (ev_ic (cd := .ge) rfl (fun h => ?_) (fun h => ?_))
  · exact ev_ret rfl rfl ⟨rfl, _, rfl⟩
  · rw [show (rz_w v (rz_ua a 0 f) g) = (rz_w v (rz_ua a 0 f) g) from rfl] at *
    have h' : rz_cmp .ge (Int32.ofNat k) (v 0) = false := h
    rw [hv] at h'
    have hk' : k < n := rn_ge_f (by omega) (by omega) h'
    refine ev_ps 3 rfl (ev_ald rfl rfl (rz_in (by omega) (by decide)) ?_)
    refine ev_call (av := [_]) rfl rfl rfl rfl ⟨Nat.le_of_ble_eq_true rfl, rfl⟩ ⟨Nat.le_of_ble_eq_true rfl, Nat.le_of_ble_eq_true rfl⟩ (c_t _) ?_
    rintro _ _ ⟨rfl, rfl⟩
    refine ev_ps 4 rfl (ev_ald rfl rfl (rz_in (by omega) (by decide)) ?_)
    refine ev_call (av := [_]) rfl rfl rfl rfl ⟨Nat.le_of_ble_eq_true rfl, rfl⟩ ⟨Nat.le_of_ble_eq_true rfl, Nat.le_of_ble_eq_true rfl⟩ (c_hasTarget _) ?_
    rintro _ _ ⟨⟨u, hu, rfl⟩, rfl⟩
    refine ev_if (cd := .eq) rfl (fun h2 => next hk' _ _) (fun h2 => ?_)
    refine ev_ps 2 rfl (ev_ic (cd := .le) rfl (fun h2 => next hk' _ _) (fun h2 => ?_))
    refine ev_ps 6 rfl (ev_ald rfl rfl (rz_in (by omega) (by decide)) ?_)
    refine ev_ps 3 rfl (ev_call (av := [_, _]) rfl rfl rfl rfl ⟨Nat.le_of_ble_eq_true rfl, rfl⟩ ⟨Nat.le_of_ble_eq_true rfl, Nat.le_of_ble_eq_true rfl⟩ (c_withTarget _ _) ?_)
    rintro _ _ ⟨rfl, rfl⟩
    refine ev_ast rfl rfl (rz_in (by omega) (by decide)) ?_
    exact ev_w (w2 := rz_w v (rz_ua a 0 (upd f (Int32.ofNat k).toNatClampNeg _)) g) rfl (next hk' _ _)
theorem c_progPutForRow {p n m : Nat} (x : Int32) (hv : v 0 = Int32.ofNat m) (hm : m ≤ 24) (hn1 : 1 ≤ n) (hpn : p + n ≤ m) : rz_C xs xl 45 [.ref 1, .int (Int32.ofNat p), .int (Int32.ofNat n), .int x] (rz_w v a g)
    (fun q w' => ∃ (c : Nat) (f : Nat → Int32), c ≤ 1 ∧ q = .inl (some (.int (Int32.ofNat c))) ∧ w' = rz_w (rz_up v 0 (Int32.ofNat (m - (n - c)))) (rz_ua a 0 f) g) := by
  have main : ∀ (c : Nat) (f : Nat → Int32), c ≤ 1 → rz_E xs xl 45 18 [some (.ref 1), some (.int (Int32.ofNat p)), some (.int (Int32.ofNat n)), some (.int x), some (.int (Int32.ofNat c)), none, none] [] (rz_w v (rz_ua a 0 f) g) 0 0 (fun q w' => ∃ (c : Nat) (f : Nat → Int32), c ≤ 1 ∧ q = .inl (some (.int (Int32.ofNat c))) ∧ w' = rz_w (rz_up v 0 (Int32.ofNat (m - (n - c)))) (rz_ua a 0 f) g) := by
    intro c f hc
    refine ev_ps 8 rfl ?_
    refine ev_l (L2 := [some (.ref 1), some (.int (Int32.ofNat p)), some (.int (Int32.ofNat n)), some (.int x), some (.int (Int32.ofNat c)), some (.int (Int32.ofNat (n - c))), some (.int (Int32.ofNat (p + c)))]) (by rw [← rz_sub (show c ≤ n by omega), ← rz_add]; rfl) ?_
    refine ev_loop (α := Nat × (Nat → Int32)) (fun q => m - q.1) (fun q => q.1 + (n - c) ≤ m) (fun q => [some (.ref 1), some (.int (Int32.ofNat p)), some (.int (Int32.ofNat n)), some (.int x), some (.int (Int32.ofNat c)), some (.int (Int32.ofNat (n - c))), some (.int (Int32.ofNat q.1))]) (fun _ => []) (fun q => rz_w v (rz_ua a 0 q.2) g) ?_ (p + c, f) (by show p + c + (n - c) ≤ m; omega)
    rintro ⟨k, f⟩ hk ih
    dsimp only at hk ih ⊢
    refine ev_ps 5 rfl (ev_ic (cd := .ge) rfl (fun h => ?_) (fun h => ?_))
    · refine ev_ps 6 rfl ?_
      refine ev_w (w2 := rz_w (rz_up v 0 (Int32.ofNat (m - (n - c)))) (rz_ua a 0 f) g) ?_ ?_
      · rw [← rz_sub (show n - c ≤ m by omega), ← hv]; rfl
      · refine ev_ps 3 rfl (ev_call (av := [_, _, _]) rfl rfl rfl rfl ⟨Nat.le_of_ble_eq_true rfl, rfl⟩ ⟨Nat.le_of_ble_eq_true rfl, Nat.le_of_ble_eq_true rfl⟩ (c_moveTargets (n := m - (n - c)) _ _ rfl (by omega)) ?_)
        rintro _ _ ⟨rfl, f2, rfl⟩
        exact ev_ps 1 rfl (ev_ret rfl rfl ⟨c, f2, hc, rfl, rfl⟩)
    · have h' : rz_cmp .ge (Int32.ofNat k) (v 0 - Int32.ofNat (n - c)) = false := h
      rw [hv, rz_sub (by omega)] at h'
      have hk' : k < m - (n - c) := rn_ge_f (by omega) (by omega) h'
      refine ev_ps 8 rfl (ev_ald rfl rfl (by rw [rz_add]; exact rz_in (by omega) (by decide)) ?_)
      refine ev_ast rfl rfl (rz_in (by omega) (by decide)) ?_
      have h9 := fun f2 => ih (k + 1, f2) (by show k + 1 + (n - c) ≤ m; omega) (by show m - (k + 1) < m - k; omega)
      dsimp only at h9
      rw [← rz_succ k] at h9
      exact ev_w (w2 := rz_w v (rz_ua a 0 (upd f (Int32.ofNat k).toNatClampNeg _)) g) rfl (ev_ps 2 rfl (h9 _))
  refine ev_ps 4 rfl (ev_ic (cd := .eq) rfl (fun h => ?_) (fun h => ?_))
  · exact ev_w (w2 := rz_w v (rz_ua a 0 (a 0)) g) rfl (main 0 (a 0) (by omega))
  · refine ev_ps 4 rfl (ev_ast rfl rfl (rz_in (by omega) (by decide)) ?_)
    refine ev_w (w2 := rz_w v (rz_ua a 0 (upd (a 0) (Int32.ofNat p).toNatClampNeg x)) g) rfl ?_
    exact ev_ps 2 rfl (main 1 _ (by omega))
theorem c_takeNothing_9 : rz_C xs xl 34 [.ref 9] (rz_w v a g) (fun q w' => q = .inl none ∧ w' = rz_w (rz_up v 6 0) a g) :=
  ev_ps 3 rfl (ev_ret rfl rfl ⟨rfl, rfl⟩)
theorem c_takeOne_9 (x : Int32) : rz_C xs xl 43 [.ref 9, .int x] (rz_w v a g) (fun q w' => q = .inl none ∧ ∃ f, w' = rz_w (rz_up v 6 1) (rz_ua a 4 f) g) := by
  refine ev_ps 4 rfl (ev_ast rfl rfl (by decide) ?_)
  refine ev_w (w2 := rz_w v (rz_ua a 4 (upd (a 4) (0 : Int32).toNatClampNeg x)) g) rfl ?_
  exact ev_ps 3 rfl (ev_ret rfl rfl ⟨rfl, _, rfl⟩)
theorem c_takeFrom_9 {p n : Nat} (hn : n ≤ 3) (hpn : p + n ≤ 24) : rz_C xs xl 30 [.ref 9, .ref 1, .int (Int32.ofNat p), .int (Int32.ofNat n)] (rz_w v a g) (fun q w' => q = .inl none ∧ ∃ f, w' = rz_w (rz_up v 6 (Int32.ofNat n)) (rz_ua a 4 f) g) := by
  refine ev_ps 2 rfl (ev_w (w2 := rz_w v (rz_ua a 4 (a 4)) g) rfl ?_)
  refine ev_loop (α := Nat × (Nat → Int32)) (fun q => n - q.1) (fun q => q.1 ≤ n) (fun q => [some (.ref 9), some (.ref 1), some (.int (Int32.ofNat p)), some (.int (Int32.ofNat n)), some (.int (Int32.ofNat q.1))]) (fun _ => []) (fun q => rz_w v (rz_ua a 4 q.2) g) ?_ (0, a 4) (Nat.zero_le _)
  rintro ⟨k, f⟩ hk ih
  dsimp only at hk ih ⊢
  refine ev_ps 2 rfl (ev_ic (cd := .ge) rfl (fun h => ?_) (fun h => ?_))
  · exact ev_ps 3 rfl (ev_ret rfl rfl ⟨rfl, f, rfl⟩)
  · have hk' : k < n := rn_ge_f (by omega) (by omega) h
    refine ev_ps 7 rfl ?_
    refine ev_call (av := [.ref 1, .int (Int32.ofNat (p + k))]) rfl (by rw [← rz_add]; rfl) rfl rfl ⟨Nat.le_of_ble_eq_true rfl, rfl⟩ ⟨Nat.le_of_ble_eq_true rfl, Nat.le_of_ble_eq_true rfl⟩ (c_codeAt (by omega)) ?_
    rintro _ _ ⟨⟨u, rfl⟩, rfl⟩
    refine ev_ast rfl rfl (rz_in (by omega) (by decide)) ?_
    have h9 := fun f2 => ih (k + 1, f2) (by show k + 1 ≤ n; omega) (by show n - (k + 1) < n - k; omega)
    dsimp only at h9
    rw [← rz_succ k] at h9
    exact ev_w (w2 := rz_w v (rz_ua a 4 (upd f (Int32.ofNat k).toNatClampNeg _)) g) rfl (ev_ps 2 rfl (h9 _))
theorem c_takeFrom0_9 (x : Int32) : rz_C xs xl 30 [.ref 9, .ref 1, .int x, .int 0] (rz_w v a g) (fun q w' => q = .inl none ∧ ∃ f, w' = rz_w (rz_up v 6 (Int32.ofNat 0)) (rz_ua a 4 f) g) := by
  refine ev_ps 4 rfl (ev_ic (cd := .ge) rfl (fun h => ?_) (fun h => ?_))
  · exact ev_ps 3 rfl (ev_ret rfl rfl ⟨rfl, a 4, rfl⟩)
  · exact absurd (by decide : (0 : Int32) ≤ 0) (rc_ge_f h)
theorem c_rowRegs_9 {n : Nat} (x : Int32) (hv : v 6 = Int32.ofNat n) (hn : n ≤ 3) : rz_C xs xl 36 [.ref 9, .int x] (rz_w v a g) (fun q w' => (∃ u, q = .inl (some (.int u))) ∧ w' = rz_w v a g) := by
  refine ev_ps 4 rfl ?_
  refine ev_loop (α := Nat × Int32) (fun q => n - q.1) (fun q => q.1 ≤ n) (fun q => [some (.ref 9), some (.int x), some (.int q.2), some (.int (Int32.ofNat q.1))]) (fun _ => []) (fun _ => rz_w v a g) ?_ (0, x) (Nat.zero_le _)
  rintro ⟨k, y⟩ hk ih
  dsimp only at hk ih ⊢
  refine ev_ps 3 rfl (ev_ic (cd := .ge) rfl (fun h => ?_) (fun h => ?_))
  · exact ev_ps 1 rfl (ev_ret rfl rfl ⟨⟨_, rfl⟩, rfl⟩)
  · rw [hv] at h
    have hk' : k < n := rn_ge_f (by omega) (by omega) h
    refine ev_ps 3 rfl (ev_ald rfl rfl (rz_in (by omega) (by decide)) ?_)
    refine ev_ps 1 rfl (ev_call (av := [_, _]) rfl rfl rfl rfl ⟨Nat.le_of_ble_eq_true rfl, rfl⟩ ⟨Nat.le_of_ble_eq_true rfl, Nat.le_of_ble_eq_true rfl⟩ (c_regsAfter _ _) ?_)
    rintro _ _ ⟨⟨u, rfl⟩, rfl⟩
    have h9 := ih (k + 1, u) (by show k + 1 ≤ n; omega) (by show n - (k + 1) < n - k; omega)
    dsimp only at h9
    rw [← rz_succ k] at h9
    exact ev_ps 3 rfl h9
theorem c_takeNothing_11 : rz_C xs xl 34 [.ref 11] (rz_w v a g) (fun q w' => q = .inl none ∧ w' = rz_w (rz_up v 7 0) a g) :=
  ev_ps 3 rfl (ev_ret rfl rfl ⟨rfl, rfl⟩)
theorem c_takeOne_11 (x : Int32) : rz_C xs xl 43 [.ref 11, .int x] (rz_w v a g) (fun q w' => q = .inl none ∧ ∃ f, w' = rz_w (rz_up v 7 1) (rz_ua a 5 f) g) := by
  refine ev_ps 4 rfl (ev_ast rfl rfl (by decide) ?_)
  refine ev_w (w2 := rz_w v (rz_ua a 5 (upd (a 5) (0 : Int32).toNatClampNeg x)) g) rfl ?_
  exact ev_ps 3 rfl (ev_ret rfl rfl ⟨rfl, _, rfl⟩)
theorem c_takeFrom_11 {p n : Nat} (hn : n ≤ 3) (hpn : p + n ≤ 24) : rz_C xs xl 30 [.ref 11, .ref 1, .int (Int32.ofNat p), .int (Int32.ofNat n)] (rz_w v a g) (fun q w' => q = .inl none ∧ ∃ f, w' = rz_w (rz_up v 7 (Int32.ofNat n)) (rz_ua a 5 f) g) := by
  refine ev_ps 2 rfl (ev_w (w2 := rz_w v (rz_ua a 5 (a 5)) g) rfl ?_)
  refine ev_loop (α := Nat × (Nat → Int32)) (fun q => n - q.1) (fun q => q.1 ≤ n) (fun q => [some (.ref 11), some (.ref 1), some (.int (Int32.ofNat p)), some (.int (Int32.ofNat n)), some (.int (Int32.ofNat q.1))]) (fun _ => []) (fun q => rz_w v (rz_ua a 5 q.2) g) ?_ (0, a 5) (Nat.zero_le _)
  rintro ⟨k, f⟩ hk ih
  dsimp only at hk ih ⊢
  refine ev_ps 2 rfl (ev_ic (cd := .ge) rfl (fun h => ?_) (fun h => ?_))
  · exact ev_ps 3 rfl (ev_ret rfl rfl ⟨rfl, f, rfl⟩)
  · have hk' : k < n := rn_ge_f (by omega) (by omega) h
    refine ev_ps 7 rfl ?_
    refine ev_call (av := [.ref 1, .int (Int32.ofNat (p + k))]) rfl (by rw [← rz_add]; rfl) rfl rfl ⟨Nat.le_of_ble_eq_true rfl, rfl⟩ ⟨Nat.le_of_ble_eq_true rfl, Nat.le_of_ble_eq_true rfl⟩ (c_codeAt (by omega)) ?_
    rintro _ _ ⟨⟨u, rfl⟩, rfl⟩
    refine ev_ast rfl rfl (rz_in (by omega) (by decide)) ?_
    have h9 := fun f2 => ih (k + 1, f2) (by show k + 1 ≤ n; omega) (by show n - (k + 1) < n - k; omega)
    dsimp only at h9
    rw [← rz_succ k] at h9
    exact ev_w (w2 := rz_w v (rz_ua a 5 (upd f (Int32.ofNat k).toNatClampNeg _)) g) rfl (ev_ps 2 rfl (h9 _))
theorem c_takeFrom0_11 (x : Int32) : rz_C xs xl 30 [.ref 11, .ref 1, .int x, .int 0] (rz_w v a g) (fun q w' => q = .inl none ∧ ∃ f, w' = rz_w (rz_up v 7 (Int32.ofNat 0)) (rz_ua a 5 f) g) := by
  refine ev_ps 4 rfl (ev_ic (cd := .ge) rfl (fun h => ?_) (fun h => ?_))
  · exact ev_ps 3 rfl (ev_ret rfl rfl ⟨rfl, a 5, rfl⟩)
  · exact absurd (by decide : (0 : Int32) ≤ 0) (rc_ge_f h)
theorem c_rowRegs_11 {n : Nat} (x : Int32) (hv : v 7 = Int32.ofNat n) (hn : n ≤ 3) : rz_C xs xl 36 [.ref 11, .int x] (rz_w v a g) (fun q w' => (∃ u, q = .inl (some (.int u))) ∧ w' = rz_w v a g) := by
  refine ev_ps 4 rfl ?_
  refine ev_loop (α := Nat × Int32) (fun q => n - q.1) (fun q => q.1 ≤ n) (fun q => [some (.ref 11), some (.int x), some (.int q.2), some (.int (Int32.ofNat q.1))]) (fun _ => []) (fun _ => rz_w v a g) ?_ (0, x) (Nat.zero_le _)
  rintro ⟨k, y⟩ hk ih
  dsimp only at hk ih ⊢
  refine ev_ps 3 rfl (ev_ic (cd := .ge) rfl (fun h => ?_) (fun h => ?_))
  · exact ev_ps 1 rfl (ev_ret rfl rfl ⟨⟨_, rfl⟩, rfl⟩)
  · rw [hv] at h
    have hk' : k < n := rn_ge_f (by omega) (by omega) h
    refine ev_ps 3 rfl (ev_ald rfl rfl (rz_in (by omega) (by decide)) ?_)
    refine ev_ps 1 rfl (ev_call (av := [_, _]) rfl rfl rfl rfl ⟨Nat.le_of_ble_eq_true rfl, rfl⟩ ⟨Nat.le_of_ble_eq_true rfl, Nat.le_of_ble_eq_true rfl⟩ (c_regsAfter _ _) ?_)
    rintro _ _ ⟨⟨u, rfl⟩, rfl⟩
    have h9 := ih (k + 1, u) (by show k + 1 ≤ n; omega) (by show n - (k + 1) < n - k; omega)
    dsimp only at h9
    rw [← rz_succ k] at h9
    exact ev_ps 3 rfl h9
theorem c_takeNothing_21 : rz_C xs xl 34 [.ref 21] (rz_w v a g) (fun q w' => q = .inl none ∧ w' = rz_w (rz_up v 11 0) a g) :=
  ev_ps 3 rfl (ev_ret rfl rfl ⟨rfl, rfl⟩)
theorem c_takeOne_21 (x : Int32) : rz_C xs xl 43 [.ref 21, .int x] (rz_w v a g) (fun q w' => q = .inl none ∧ ∃ f, w' = rz_w (rz_up v 11 1) (rz_ua a 9 f) g) := by
  refine ev_ps 4 rfl (ev_ast rfl rfl (by decide) ?_)
  refine ev_w (w2 := rz_w v (rz_ua a 9 (upd (a 9) (0 : Int32).toNatClampNeg x)) g) rfl ?_
  exact ev_ps 3 rfl (ev_ret rfl rfl ⟨rfl, _, rfl⟩)
theorem c_takeFrom_21 {p n : Nat} (hn : n ≤ 3) (hpn : p + n ≤ 24) : rz_C xs xl 30 [.ref 21, .ref 1, .int (Int32.ofNat p), .int (Int32.ofNat n)] (rz_w v a g) (fun q w' => q = .inl none ∧ ∃ f, w' = rz_w (rz_up v 11 (Int32.ofNat n)) (rz_ua a 9 f) g) := by
  refine ev_ps 2 rfl (ev_w (w2 := rz_w v (rz_ua a 9 (a 9)) g) rfl ?_)
  refine ev_loop (α := Nat × (Nat → Int32)) (fun q => n - q.1) (fun q => q.1 ≤ n) (fun q => [some (.ref 21), some (.ref 1), some (.int (Int32.ofNat p)), some (.int (Int32.ofNat n)), some (.int (Int32.ofNat q.1))]) (fun _ => []) (fun q => rz_w v (rz_ua a 9 q.2) g) ?_ (0, a 9) (Nat.zero_le _)
  rintro ⟨k, f⟩ hk ih
  dsimp only at hk ih ⊢
  refine ev_ps 2 rfl (ev_ic (cd := .ge) rfl (fun h => ?_) (fun h => ?_))
  · exact ev_ps 3 rfl (ev_ret rfl rfl ⟨rfl, f, rfl⟩)
  · have hk' : k < n := rn_ge_f (by omega) (by omega) h
    refine ev_ps 7 rfl ?_
    refine ev_call (av := [.ref 1, .int (Int32.ofNat (p + k))]) rfl (by rw [← rz_add]; rfl) rfl rfl ⟨Nat.le_of_ble_eq_true rfl, rfl⟩ ⟨Nat.le_of_ble_eq_true rfl, Nat.le_of_ble_eq_true rfl⟩ (c_codeAt (by omega)) ?_
    rintro _ _ ⟨⟨u, rfl⟩, rfl⟩
    refine ev_ast rfl rfl (rz_in (by omega) (by decide)) ?_
    have h9 := fun f2 => ih (k + 1, f2) (by show k + 1 ≤ n; omega) (by show n - (k + 1) < n - k; omega)
    dsimp only at h9
    rw [← rz_succ k] at h9
    exact ev_w (w2 := rz_w v (rz_ua a 9 (upd f (Int32.ofNat k).toNatClampNeg _)) g) rfl (ev_ps 2 rfl (h9 _))
theorem c_takeFrom0_21 (x : Int32) : rz_C xs xl 30 [.ref 21, .ref 1, .int x, .int 0] (rz_w v a g) (fun q w' => q = .inl none ∧ ∃ f, w' = rz_w (rz_up v 11 (Int32.ofNat 0)) (rz_ua a 9 f) g) := by
  refine ev_ps 4 rfl (ev_ic (cd := .ge) rfl (fun h => ?_) (fun h => ?_))
  · exact ev_ps 3 rfl (ev_ret rfl rfl ⟨rfl, a 9, rfl⟩)
  · exact absurd (by decide : (0 : Int32) ≤ 0) (rc_ge_f h)
theorem c_rowRegs_21 {n : Nat} (x : Int32) (hv : v 11 = Int32.ofNat n) (hn : n ≤ 3) : rz_C xs xl 36 [.ref 21, .int x] (rz_w v a g) (fun q w' => (∃ u, q = .inl (some (.int u))) ∧ w' = rz_w v a g) := by
  refine ev_ps 4 rfl ?_
  refine ev_loop (α := Nat × Int32) (fun q => n - q.1) (fun q => q.1 ≤ n) (fun q => [some (.ref 21), some (.int x), some (.int q.2), some (.int (Int32.ofNat q.1))]) (fun _ => []) (fun _ => rz_w v a g) ?_ (0, x) (Nat.zero_le _)
  rintro ⟨k, y⟩ hk ih
  dsimp only at hk ih ⊢
  refine ev_ps 3 rfl (ev_ic (cd := .ge) rfl (fun h => ?_) (fun h => ?_))
  · exact ev_ps 1 rfl (ev_ret rfl rfl ⟨⟨_, rfl⟩, rfl⟩)
  · rw [hv] at h
    have hk' : k < n := rn_ge_f (by omega) (by omega) h
    refine ev_ps 3 rfl (ev_ald rfl rfl (rz_in (by omega) (by decide)) ?_)
    refine ev_ps 1 rfl (ev_call (av := [_, _]) rfl rfl rfl rfl ⟨Nat.le_of_ble_eq_true rfl, rfl⟩ ⟨Nat.le_of_ble_eq_true rfl, Nat.le_of_ble_eq_true rfl⟩ (c_regsAfter _ _) ?_)
    rintro _ _ ⟨⟨u, rfl⟩, rfl⟩
    have h9 := ih (k + 1, u) (by show k + 1 ≤ n; omega) (by show n - (k + 1) < n - k; omega)
    dsimp only at h9
    rw [← rz_succ k] at h9
    exact ev_ps 3 rfl h9
theorem c_takeNothing_23 : rz_C xs xl 34 [.ref 23] (rz_w v a g) (fun q w' => q = .inl none ∧ w' = rz_w (rz_up v 12 0) a g) :=
  ev_ps 3 rfl (ev_ret rfl rfl ⟨rfl, rfl⟩)
theorem c_takeOne_23 (x : Int32) : rz_C xs xl 43 [.ref 23, .int x] (rz_w v a g) (fun q w' => q = .inl none ∧ ∃ f, w' = rz_w (rz_up v 12 1) (rz_ua a 10 f) g) := by
  refine ev_ps 4 rfl (ev_ast rfl rfl (by decide) ?_)
  refine ev_w (w2 := rz_w v (rz_ua a 10 (upd (a 10) (0 : Int32).toNatClampNeg x)) g) rfl ?_
  exact ev_ps 3 rfl (ev_ret rfl rfl ⟨rfl, _, rfl⟩)
theorem c_takeFrom_23 {p n : Nat} (hn : n ≤ 3) (hpn : p + n ≤ 24) : rz_C xs xl 30 [.ref 23, .ref 1, .int (Int32.ofNat p), .int (Int32.ofNat n)] (rz_w v a g) (fun q w' => q = .inl none ∧ ∃ f, w' = rz_w (rz_up v 12 (Int32.ofNat n)) (rz_ua a 10 f) g) := by
  refine ev_ps 2 rfl (ev_w (w2 := rz_w v (rz_ua a 10 (a 10)) g) rfl ?_)
  refine ev_loop (α := Nat × (Nat → Int32)) (fun q => n - q.1) (fun q => q.1 ≤ n) (fun q => [some (.ref 23), some (.ref 1), some (.int (Int32.ofNat p)), some (.int (Int32.ofNat n)), some (.int (Int32.ofNat q.1))]) (fun _ => []) (fun q => rz_w v (rz_ua a 10 q.2) g) ?_ (0, a 10) (Nat.zero_le _)
  rintro ⟨k, f⟩ hk ih
  dsimp only at hk ih ⊢
  refine ev_ps 2 rfl (ev_ic (cd := .ge) rfl (fun h => ?_) (fun h => ?_))
  · exact ev_ps 3 rfl (ev_ret rfl rfl ⟨rfl, f, rfl⟩)
  · have hk' : k < n := rn_ge_f (by omega) (by omega) h
    refine ev_ps 7 rfl ?_
    refine ev_call (av := [.ref 1, .int (Int32.ofNat (p + k))]) rfl (by rw [← rz_add]; rfl) rfl rfl ⟨Nat.le_of_ble_eq_true rfl, rfl⟩ ⟨Nat.le_of_ble_eq_true rfl, Nat.le_of_ble_eq_true rfl⟩ (c_codeAt (by omega)) ?_
    rintro _ _ ⟨⟨u, rfl⟩, rfl⟩
    refine ev_ast rfl rfl (rz_in (by omega) (by decide)) ?_
    have h9 := fun f2 => ih (k + 1, f2) (by show k + 1 ≤ n; omega) (by show n - (k + 1) < n - k; omega)
    dsimp only at h9
    rw [← rz_succ k] at h9
    exact ev_w (w2 := rz_w v (rz_ua a 10 (upd f (Int32.ofNat k).toNatClampNeg _)) g) rfl (ev_ps 2 rfl (h9 _))
theorem c_takeFrom0_23 (x : Int32) : rz_C xs xl 30 [.ref 23, .ref 1, .int x, .int 0] (rz_w v a g) (fun q w' => q = .inl none ∧ ∃ f, w' = rz_w (rz_up v 12 (Int32.ofNat 0)) (rz_ua a 10 f) g) := by
  refine ev_ps 4 rfl (ev_ic (cd := .ge) rfl (fun h => ?_) (fun h => ?_))
  · exact ev_ps 3 rfl (ev_ret rfl rfl ⟨rfl, a 10, rfl⟩)
  · exact absurd (by decide : (0 : Int32) ≤ 0) (rc_ge_f h)
theorem c_rowRegs_23 {n : Nat} (x : Int32) (hv : v 12 = Int32.ofNat n) (hn : n ≤ 3) : rz_C xs xl 36 [.ref 23, .int x] (rz_w v a g) (fun q w' => (∃ u, q = .inl (some (.int u))) ∧ w' = rz_w v a g) := by
  refine ev_ps 4 rfl ?_
  refine ev_loop (α := Nat × Int32) (fun q => n - q.1) (fun q => q.1 ≤ n) (fun q => [some (.ref 23), some (.int x), some (.int q.2), some (.int (Int32.ofNat q.1))]) (fun _ => []) (fun _ => rz_w v a g) ?_ (0, x) (Nat.zero_le _)
  rintro ⟨k, y⟩ hk ih
  dsimp only at hk ih ⊢
  refine ev_ps 3 rfl (ev_ic (cd := .ge) rfl (fun h => ?_) (fun h => ?_))
  · exact ev_ps 1 rfl (ev_ret rfl rfl ⟨⟨_, rfl⟩, rfl⟩)
  · rw [hv] at h
    have hk' : k < n := rn_ge_f (by omega) (by omega) h
    refine ev_ps 3 rfl (ev_ald rfl rfl (rz_in (by omega) (by decide)) ?_)
    refine ev_ps 1 rfl (ev_call (av := [_, _]) rfl rfl rfl rfl ⟨Nat.le_of_ble_eq_true rfl, rfl⟩ ⟨Nat.le_of_ble_eq_true rfl, Nat.le_of_ble_eq_true rfl⟩ (c_regsAfter _ _) ?_)
    rintro _ _ ⟨⟨u, rfl⟩, rfl⟩
    have h9 := ih (k + 1, u) (by show k + 1 ≤ n; omega) (by show n - (k + 1) < n - k; omega)
    dsimp only at h9
    rw [← rz_succ k] at h9
    exact ev_ps 3 rfl h9
theorem c_numbers {n : Nat} (hv : v 11 = Int32.ofNat n) (hn : n ≤ 3) : rz_C xs xl 40 [.ref 21] (rz_w v a g) (fun q w' => (∃ u, q = .inl (some (.int u))) ∧ w' = rz_w v a g) := by
  refine ev_ps 4 rfl ?_
  refine ev_loop (α := Nat × Int32) (fun q => n - q.1) (fun q => q.1 ≤ n) (fun q => [some (.ref 21), some (.int q.2), some (.int (Int32.ofNat q.1))]) (fun _ => []) (fun _ => rz_w v a g) ?_ (0, 0) (Nat.zero_le _)
  rintro ⟨k, y⟩ hk ih
  dsimp only at hk ih ⊢
  have next : k < n → ∀ y : Int32, rz_E xs xl 40 38 [some (.ref 21), some (.int y), some (.int (Int32.ofNat k))] [] (rz_w v a g) 0 0 (fun q w' => (∃ u, q = .inl (some (.int u))) ∧ w' = rz_w v a g) := fun hkn y => by
    have h9 := ih (k + 1, y) (by show k + 1 ≤ n; omega) (by show n - (k + 1) < n - k; omega)
    dsimp only at h9
    rw [← rz_succ k] at h9
    exact ev_ps 2 rfl h9
  refine ev_ps 3 rfl (ev_ic (cd := .ge) rfl (fun h => ?_) (fun h => ?_))
  · exact ev_ps 1 rfl (ev_ret rfl rfl ⟨⟨_, rfl⟩, rfl⟩)
  · rw [hv] at h
    have hk' : k < n := rn_ge_f (by omega) (by omega) h
    refine ev_ps 3 rfl (ev_ald rfl rfl (rz_in (by omega) (by decide)) ?_)
    refine ev_call (av := [_]) rfl rfl rfl rfl ⟨Nat.le_of_ble_eq_true rfl, rfl⟩ ⟨Nat.le_of_ble_eq_true rfl, Nat.le_of_ble_eq_true rfl⟩ (c_hasNumber _) ?_
    rintro _ _ ⟨⟨u, hu, rfl⟩, rfl⟩
    refine ev_if (cd := .eq) rfl (fun h2 => next hk' _) (fun h2 => ?_)
    refine ev_ps 5 rfl (ev_ald rfl rfl (rz_in (by omega) (by decide)) ?_)
    refine ev_call (av := [_]) rfl rfl rfl rfl ⟨Nat.le_of_ble_eq_true rfl, rfl⟩ ⟨Nat.le_of_ble_eq_true rfl, Nat.le_of_ble_eq_true rfl⟩ (c_t _) ?_
    rintro _ _ ⟨rfl, rfl⟩
    exact ev_ps 3 rfl (next hk' _)
theorem c_maskOf {w : rz_W} (x : Int32) : rz_C xs xl 32 [.int x] w (fun q w' => (∃ u, q = .inl (some (.int u))) ∧ w' = w) := by
  refine ev_ps 4 rfl ?_
  refine ev_loop (α := Nat × Int32) (fun q => 4 - q.1) (fun q => q.1 ≤ 4) (fun q => [some (.int x), some (.int q.2), some (.int (Int32.ofNat q.1))]) (fun _ => []) (fun _ => w) ?_ (0, 0) (Nat.zero_le _)
  rintro ⟨k, y⟩ hk ih
  dsimp only at hk ih ⊢
  have next : k < 4 → ∀ y : Int32, rz_E xs xl 32 27 [some (.int x), some (.int y), some (.int (Int32.ofNat k))] [] w 0 0 (fun q w' => (∃ u, q = .inl (some (.int u))) ∧ w' = w) := fun hkn y => by
    have h9 := ih (k + 1, y) (by show k + 1 ≤ 4; omega) (by show 4 - (k + 1) < 4 - k; omega)
    dsimp only at h9
    rw [← rz_succ k] at h9
    exact ev_ps 2 rfl h9
  refine ev_ps 2 rfl (ev_ic (cd := .ge) rfl (fun h => ?_) (fun h => ?_))
  · exact ev_ps 1 rfl (ev_ret rfl rfl ⟨⟨_, rfl⟩, rfl⟩)
  · have hk' : k < 4 := rn_ge_f (k := 4) (by omega) (by omega) h
    refine ev_ps 6 rfl (ev_ic (cd := .ne) rfl (fun h2 => next hk' _) (fun h2 => ?_))
    exact ev_ps 8 rfl (next hk' _)
end RZP2
