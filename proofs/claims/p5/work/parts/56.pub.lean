/-! the class's own methods (place 0), and the law's that call them -/
section RZP6
variable {xs : Nat → Int32} {xl : Nat} {v : Nat → Int32} {a : Nat → Nat → Int32} {g : Nat → Int64}
theorem p_clear (hci : rz_ci v) : rz_C xs xl 1 [.ref 0] (rz_w v a g) (rz_cp v a g rz_pi) := by
  refine ev_ps 2 rfl (ev_call (av := [_]) rfl rfl rfl rfl ⟨Nat.le_of_ble_eq_true rfl, rfl⟩ ⟨Nat.le_of_ble_eq_true rfl, Nat.le_of_ble_eq_true rfl⟩ (c_empty) ?_)
  rintro _ _ ⟨rfl, rfl⟩
  exact ev_ret rfl rfl ⟨⟨_, rfl⟩, _, _, rfl, rz_cf.rf.up (by decide) _, ⟨0, by omega, rfl⟩, hci.2⟩
theorem p_size (hci : rz_ci v) : rz_C xs xl 3 [.ref 0] (rz_w v a g) (rz_cp v a g rz_pi) := by
  refine ev_ps 2 rfl (ev_call (av := [_]) rfl rfl rfl rfl ⟨Nat.le_of_ble_eq_true rfl, rfl⟩ ⟨Nat.le_of_ble_eq_true rfl, Nat.le_of_ble_eq_true rfl⟩ (c_length) ?_)
  rintro _ _ ⟨rfl, rfl⟩
  exact ev_ret rfl rfl ⟨⟨_, rfl⟩, _, _, rfl, rz_cf.rf, hci⟩
theorem p_result (hci : rz_ci v) (x : Int32) : rz_C xs xl 5 [.ref 0, .int x] (rz_w v a g) (rz_cp v a g rz_pi) := by
  refine ev_ps 3 rfl (ev_call (av := [_, _]) rfl rfl rfl rfl ⟨Nat.le_of_ble_eq_true rfl, rfl⟩ ⟨Nat.le_of_ble_eq_true rfl, Nat.le_of_ble_eq_true rfl⟩ (c_outcome _) ?_)
  rintro _ _ ⟨⟨u, rfl⟩, rfl⟩
  exact ev_ret rfl rfl ⟨⟨_, rfl⟩, _, _, rfl, rz_cf.rf, hci⟩
theorem p_improve (hci : rz_ci v) : rz_C xs xl 8 [.ref 0] (rz_w v a g) (rz_cp v a g rz_pi) := by
  refine ev_ps 4 rfl (ev_call (av := [_, _]) rfl rfl rfl rfl ⟨Nat.le_of_ble_eq_true rfl, rfl⟩ ⟨Nat.le_of_ble_eq_true rfl, Nat.le_of_ble_eq_true rfl⟩ (c_improveProgram hci) ?_)
  rintro _ _ ⟨⟨u, rfl⟩, v2, a2, rfl, h1, h2⟩
  exact ev_ret rfl rfl ⟨⟨_, rfl⟩, _, _, rfl, h1, h2⟩
theorem p_count (hci : rz_ci v) (x : Int32) : rz_C xs xl 48 [.ref 0, .int x] (rz_w v a g) (rz_cp v a g rz_pi) := by
  refine ev_ps 3 rfl (ev_call (av := [_, _]) rfl rfl rfl rfl ⟨Nat.le_of_ble_eq_true rfl, rfl⟩ ⟨Nat.le_of_ble_eq_true rfl, Nat.le_of_ble_eq_true rfl⟩ (c_counted _) ?_)
  rintro _ _ ⟨⟨u, rfl⟩, rfl⟩
  exact ev_ret rfl rfl ⟨⟨_, rfl⟩, _, _, rfl, rz_cf.rf, hci⟩
theorem p_add (hci : rz_ci v) (x0 x1 x2 x3 : Int32) : rz_C xs xl 50 [.ref 0, .int x0, .int x1, .int x2, .int x3] (rz_w v a g) (rz_cp v a g (fun q => rz_pi q ∨ q = .inr 0 ∨ q = .inr 1)) := by
  refine ev_ps 4 rfl (ev_call (av := [_, _, _, _]) rfl rfl rfl rfl ⟨Nat.le_of_ble_eq_true rfl, rfl⟩ ⟨Nat.le_of_ble_eq_true rfl, Nat.le_of_ble_eq_true rfl⟩ (c_isLegal _ _ _ _) ?_)
  rintro _ _ ⟨⟨u, hu, rfl⟩, rfl⟩
  refine ev_if (cd := .ne) rfl (fun h => ?_) (fun h => ?_)
  · refine ev_ps 2 rfl (ev_call (av := [_]) rfl rfl rfl rfl ⟨Nat.le_of_ble_eq_true rfl, rfl⟩ ⟨Nat.le_of_ble_eq_true rfl, Nat.le_of_ble_eq_true rfl⟩ (c_isFull) ?_)
    rintro _ _ ⟨⟨u2, hu2, hP, rfl⟩, rfl⟩
    refine ev_if (cd := .eq) rfl (fun h2 => ?_) (fun h2 => ?_)
    · obtain ⟨n, hn, hv⟩ := hci.1
      have hlt := hP (rc_eq_t h2)
      rw [hv] at hlt
      have hn' : n < 24 := (rz_lt_iff (k := 24) (by omega) (by omega)).mp hlt
      refine ev_ps 6 rfl (ev_call (av := [_, _, _, _]) rfl rfl rfl rfl ⟨Nat.le_of_ble_eq_true rfl, rfl⟩ ⟨Nat.le_of_ble_eq_true rfl, Nat.le_of_ble_eq_true rfl⟩ (c_pack _ _ _ _) ?_)
      rintro _ _ ⟨rfl, rfl⟩
      refine ev_call (av := [_, _]) rfl rfl rfl rfl ⟨Nat.le_of_ble_eq_true rfl, rfl⟩ ⟨Nat.le_of_ble_eq_true rfl, Nat.le_of_ble_eq_true rfl⟩ (c_append _ hv hn') ?_
      rintro _ _ ⟨⟨u3, rfl⟩, f, rfl⟩
      exact ev_ret rfl rfl ⟨Or.inl ⟨_, rfl⟩, _, _, rfl, (rz_cf.rf.up (by decide) _).ua (by decide) f, ⟨n + 1, by omega, by show v 0 + 1 = _; rw [hv, rz_succ]⟩, hci.2⟩
    · exact ev_thr rfl ⟨Nat.le_of_ble_eq_true rfl, Nat.le_of_ble_eq_true rfl⟩ ⟨Or.inr (Or.inr rfl), v, a, rfl, rz_cf.rf, hci⟩
  · exact ev_thr rfl ⟨Nat.le_of_ble_eq_true rfl, Nat.le_of_ble_eq_true rfl⟩ ⟨Or.inr (Or.inl rfl), v, a, rfl, rz_cf.rf, hci⟩
theorem p_replace (hci : rz_ci v) (x0 x1 x2 x3 x4 : Int32) : rz_C xs xl 55 [.ref 0, .int x0, .int x1, .int x2, .int x3, .int x4] (rz_w v a g) (rz_cp v a g (fun q => q = .inl none ∨ q = .inr 0 ∨ q = .inr 2)) := by
  refine ev_ps 4 rfl (ev_call (av := [_, _, _, _]) rfl rfl rfl rfl ⟨Nat.le_of_ble_eq_true rfl, rfl⟩ ⟨Nat.le_of_ble_eq_true rfl, Nat.le_of_ble_eq_true rfl⟩ (c_isLegal _ _ _ _) ?_)
  rintro _ _ ⟨⟨u, hu, rfl⟩, rfl⟩
  refine ev_if (cd := .ne) rfl (fun h => ?_) (fun h => ?_)
  · refine ev_ps 3 rfl (ev_call (av := [_, _]) rfl rfl rfl rfl ⟨Nat.le_of_ble_eq_true rfl, rfl⟩ ⟨Nat.le_of_ble_eq_true rfl, Nat.le_of_ble_eq_true rfl⟩ (c_has _) ?_)
    rintro _ _ ⟨⟨u2, hu2, hP, rfl⟩, rfl⟩
    refine ev_if (cd := .ne) rfl (fun h2 => ?_) (fun h2 => ?_)
    · obtain ⟨n, hn, hv⟩ := hci.1
      obtain ⟨hx0, hx1⟩ := hP (hu2.resolve_left (rc_ne_t h2))
      rw [hv] at hx1
      obtain ⟨p, hp, rfl⟩ := rz_idx (by omega) hx0 hx1
      refine ev_ps 7 rfl (ev_call (av := [_, _, _, _]) rfl rfl rfl rfl ⟨Nat.le_of_ble_eq_true rfl, rfl⟩ ⟨Nat.le_of_ble_eq_true rfl, Nat.le_of_ble_eq_true rfl⟩ (c_pack _ _ _ _) ?_)
      rintro _ _ ⟨rfl, rfl⟩
      refine ev_call (av := [_, _, _]) rfl rfl rfl rfl ⟨Nat.le_of_ble_eq_true rfl, rfl⟩ ⟨Nat.le_of_ble_eq_true rfl, Nat.le_of_ble_eq_true rfl⟩ (c_put _ (by omega)) ?_
      rintro _ _ ⟨rfl, f, rfl⟩
      exact ev_ret rfl rfl ⟨Or.inl rfl, _, _, rfl, rz_cf.rf.ua (by decide) f, hci⟩
    · exact ev_thr rfl ⟨Nat.le_of_ble_eq_true rfl, Nat.le_of_ble_eq_true rfl⟩ ⟨Or.inr (Or.inr rfl), v, a, rfl, rz_cf.rf, hci⟩
  · exact ev_thr rfl ⟨Nat.le_of_ble_eq_true rfl, Nat.le_of_ble_eq_true rfl⟩ ⟨Or.inr (Or.inl rfl), v, a, rfl, rz_cf.rf, hci⟩
theorem p_instruction (hci : rz_ci v) (x0 x1 : Int32) : rz_C xs xl 57 [.ref 0, .int x0, .int x1] (rz_w v a g) (rz_cp v a g (fun q => rz_pi q ∨ q = .inr 0 ∨ q = .inr 2)) := by
  refine ev_ps 1 rfl (ev_if (cd := .lt) rfl (fun h => ?_) (fun h => ?_))
  · exact ev_thr rfl ⟨Nat.le_of_ble_eq_true rfl, Nat.le_of_ble_eq_true rfl⟩ ⟨Or.inr (Or.inl rfl), v, a, rfl, rz_cf.rf, hci⟩
  · refine ev_ps 2 rfl (ev_ic (cd := .le) rfl (fun h => ?_) (fun h => ?_))
    · refine ev_ps 3 rfl (ev_call (av := [_, _]) rfl rfl rfl rfl ⟨Nat.le_of_ble_eq_true rfl, rfl⟩ ⟨Nat.le_of_ble_eq_true rfl, Nat.le_of_ble_eq_true rfl⟩ (c_has _) ?_)
      rintro _ _ ⟨⟨u2, hu2, hP, rfl⟩, rfl⟩
      refine ev_if (cd := .ne) rfl (fun h2 => ?_) (fun h2 => ?_)
      · obtain ⟨n, hn, hv⟩ := hci.1
        obtain ⟨hx0, hx1⟩ := hP (hu2.resolve_left (rc_ne_t h2))
        rw [hv] at hx1
        obtain ⟨p, hp, rfl⟩ := rz_idx (by omega) hx0 hx1
        refine ev_ps 3 rfl (ev_call (av := [_, _]) rfl rfl rfl rfl ⟨Nat.le_of_ble_eq_true rfl, rfl⟩ ⟨Nat.le_of_ble_eq_true rfl, Nat.le_of_ble_eq_true rfl⟩ (c_codeAt (by omega)) ?_)
        rintro _ _ ⟨⟨c, rfl⟩, rfl⟩
        refine ev_ps 1 rfl (ev_call (av := [_, _]) rfl rfl rfl rfl ⟨Nat.le_of_ble_eq_true rfl, rfl⟩ ⟨Nat.le_of_ble_eq_true rfl, Nat.le_of_ble_eq_true rfl⟩ (c_part _ _) ?_)
        rintro _ _ ⟨⟨c2, rfl⟩, rfl⟩
        exact ev_ret rfl rfl ⟨Or.inl ⟨_, rfl⟩, _, _, rfl, rz_cf.rf, hci⟩
      · exact ev_thr rfl ⟨Nat.le_of_ble_eq_true rfl, Nat.le_of_ble_eq_true rfl⟩ ⟨Or.inr (Or.inr rfl), v, a, rfl, rz_cf.rf, hci⟩
    · exact ev_thr rfl ⟨Nat.le_of_ble_eq_true rfl, Nat.le_of_ble_eq_true rfl⟩ ⟨Or.inr (Or.inl rfl), v, a, rfl, rz_cf.rf, hci⟩
def rz_sok (x y : Int32) : Prop := ¬ x < 1 ∧ x < 12 ∧ ¬ y < 0 ∧ ¬ 15 < y
theorem p_start (hci : rz_ci v) (x y : Int32) : rz_C xs xl 59 [.ref 0, .int x, .int y] (rz_w v a g) (rz_cp v a g (fun q => (q = .inl none ∧ rz_sok x y) ∨ (q = .inr 0 ∧ ¬ rz_sok x y))) := by
  refine ev_ps 2 rfl (ev_ic (cd := .lt) rfl (fun h1 => ?_) (fun h1 => ?_))
  · exact ev_thr rfl ⟨Nat.le_of_ble_eq_true rfl, Nat.le_of_ble_eq_true rfl⟩ ⟨Or.inr ⟨rfl, fun q => q.1 (rc_lt_t h1)⟩, v, a, rfl, rz_cf.rf, hci⟩
  · refine ev_ps 2 rfl (ev_ic (cd := .ge) rfl (fun h2 => ?_) (fun h2 => ?_))
    · exact ev_thr rfl ⟨Nat.le_of_ble_eq_true rfl, Nat.le_of_ble_eq_true rfl⟩ ⟨Or.inr ⟨rfl, fun q => Int32.not_le.mpr q.2.1 (rc_ge_t h2)⟩, v, a, rfl, rz_cf.rf, hci⟩
    · refine ev_ps 1 rfl (ev_if (cd := .lt) rfl (fun h3 => ?_) (fun h3 => ?_))
      · exact ev_thr rfl ⟨Nat.le_of_ble_eq_true rfl, Nat.le_of_ble_eq_true rfl⟩ ⟨Or.inr ⟨rfl, fun q => q.2.2.1 (rc_lt_t h3)⟩, v, a, rfl, rz_cf.rf, hci⟩
      · refine ev_ps 2 rfl (ev_ic (cd := .le) rfl (fun h4 => ?_) (fun h4 => ?_))
        · have hx : x < 12 := Int32.not_le.mp (rc_ge_f h2)
          have hok : rz_sok x y := ⟨rc_lt_f h1, hx, rc_lt_f h3, Int32.not_lt.mpr (rc_le_t h4)⟩
          obtain ⟨k, hk, rfl⟩ := rz_idx (n := 12) (by decide) (fun h => rc_lt_f h1 (Int32.lt_trans h (by decide))) hx
          refine ev_ps 4 rfl (ev_call (av := [_, _, _]) rfl rfl rfl rfl ⟨Nat.le_of_ble_eq_true rfl, rfl⟩ ⟨Nat.le_of_ble_eq_true rfl, Nat.le_of_ble_eq_true rfl⟩ (c_setStart _ hk) ?_)
          rintro _ _ ⟨rfl, r, f, rfl⟩
          exact ev_ret rfl rfl ⟨Or.inl ⟨rfl, hok⟩, _, _, rfl, (rz_cf.rf.up (by decide) r).ua (by decide) f, hci⟩
        · exact ev_thr rfl ⟨Nat.le_of_ble_eq_true rfl, Nat.le_of_ble_eq_true rfl⟩ ⟨Or.inr ⟨rfl, fun q => q.2.2.2 (Int32.not_le.mp (rc_le_f h4))⟩, v, a, rfl, rz_cf.rf, hci⟩
theorem p_run (hci : rz_ci v) (x : Int32) : rz_C xs xl 61 [.ref 0, .int x] (rz_w v a g) (rz_cp v a g (fun q => rz_pi q ∨ q = .inr 0)) := by
  refine ev_ps 1 rfl (ev_if (cd := .lt) rfl (fun h => ?_) (fun h => ?_))
  · exact ev_thr rfl ⟨Nat.le_of_ble_eq_true rfl, Nat.le_of_ble_eq_true rfl⟩ ⟨Or.inr rfl, v, a, rfl, rz_cf.rf, hci⟩
  · refine ev_ps 2 rfl (ev_ic (cd := .le) rfl (fun h2 => ?_) (fun h2 => ?_))
    · obtain ⟨n, hn, hv⟩ := hci.1
      obtain ⟨l, hl, rfl⟩ := rz_nat (rc_lt_f h)
      have hl5 : l ≤ 500 := rn_le_t (k := 500) hl (by omega) h2
      refine ev_ps 5 rfl (ev_call (av := [_, _, _]) rfl rfl rfl rfl ⟨Nat.le_of_ble_eq_true rfl, rfl⟩ ⟨Nat.le_of_ble_eq_true rfl, Nat.le_of_ble_eq_true rfl⟩ (c_perform hv hn hl5) ?_)
      rintro _ _ ⟨⟨u, rfl⟩, r, p, e, f, he, rfl⟩
      exact ev_ret rfl rfl ⟨Or.inl ⟨_, rfl⟩, _, _, rfl, (((rz_cf.rf.up (by decide) r).up (by decide) p).up (by decide) e).ua (by decide) f, hci.1, he⟩
    · exact ev_thr rfl ⟨Nat.le_of_ble_eq_true rfl, Nat.le_of_ble_eq_true rfl⟩ ⟨Or.inr rfl, v, a, rfl, rz_cf.rf, hci⟩
theorem p_live (hci : rz_ci v) (x : Int32) : rz_C xs xl 65 [.ref 0, .int x] (rz_w v a g) (rz_cp v a g (fun q => rz_pi q ∨ q = .inr 2)) := by
  refine ev_ps 1 rfl (ev_if (cd := .lt) rfl (fun h => ?_) (fun h => ?_))
  · exact ev_thr rfl ⟨Nat.le_of_ble_eq_true rfl, Nat.le_of_ble_eq_true rfl⟩ ⟨Or.inr rfl, v, a, rfl, rz_cf.rf, hci⟩
  · refine ev_ps 3 rfl (ev_call (av := [_]) rfl rfl rfl rfl ⟨Nat.le_of_ble_eq_true rfl, rfl⟩ ⟨Nat.le_of_ble_eq_true rfl, Nat.le_of_ble_eq_true rfl⟩ (c_length) ?_)
    rintro _ _ ⟨rfl, rfl⟩
    refine ev_ic (cd := .le) rfl (fun h2 => ?_) (fun h2 => ?_)
    · obtain ⟨n, hn, hv⟩ := hci.1
      obtain ⟨l, hl, rfl⟩ := rz_nat (rc_lt_f h)
      rw [hv] at h2
      have hl5 : l ≤ n := rn_le_t hl (by omega) h2
      refine ev_ps 4 rfl (ev_call (av := [_, _]) rfl rfl rfl rfl ⟨Nat.le_of_ble_eq_true rfl, rfl⟩ ⟨Nat.le_of_ble_eq_true rfl, Nat.le_of_ble_eq_true rfl⟩ (c_findFor_6 hv hn) ?_)
      rintro _ _ ⟨rfl, f, rfl⟩
      refine ev_ps 3 rfl (ev_call (av := [_, _]) rfl rfl rfl rfl ⟨Nat.le_of_ble_eq_true rfl, rfl⟩ ⟨Nat.le_of_ble_eq_true rfl, Nat.le_of_ble_eq_true rfl⟩ (c_before_6 (by omega)) ?_)
      rintro _ _ ⟨⟨u, rfl⟩, rfl⟩
      exact ev_ret rfl rfl ⟨Or.inl ⟨_, rfl⟩, _, _, rfl, rz_cf.rf.ua (by decide) f, hci⟩
    · exact ev_thr rfl ⟨Nat.le_of_ble_eq_true rfl, Nat.le_of_ble_eq_true rfl⟩ ⟨Or.inr rfl, v, a, rfl, rz_cf.rf, hci⟩
theorem p_block (hci : rz_ci v) (x : Int32) : rz_C xs xl 66 [.ref 0, .int x] (rz_w v a g) (rz_cp v a g (fun q => rz_pi q ∨ q = .inr 2)) := by
  refine ev_ps 3 rfl (ev_call (av := [_, _]) rfl rfl rfl rfl ⟨Nat.le_of_ble_eq_true rfl, rfl⟩ ⟨Nat.le_of_ble_eq_true rfl, Nat.le_of_ble_eq_true rfl⟩ (c_has _) ?_)
  rintro _ _ ⟨⟨u2, hu2, hP, rfl⟩, rfl⟩
  refine ev_if (cd := .ne) rfl (fun h2 => ?_) (fun h2 => ?_)
  · obtain ⟨n, hn, hv⟩ := hci.1
    obtain ⟨hx0, hx1⟩ := hP (hu2.resolve_left (rc_ne_t h2))
    rw [hv] at hx1
    obtain ⟨p, hp, rfl⟩ := rz_idx (by omega) hx0 hx1
    refine ev_ps 3 rfl (ev_call (av := [_, _]) rfl rfl rfl rfl ⟨Nat.le_of_ble_eq_true rfl, rfl⟩ ⟨Nat.le_of_ble_eq_true rfl, Nat.le_of_ble_eq_true rfl⟩ (c_beginOfBlock hv hn (by omega)) ?_)
    rintro _ _ ⟨⟨u, rfl⟩, rfl⟩
    exact ev_ret rfl rfl ⟨Or.inl ⟨_, rfl⟩, _, _, rfl, rz_cf.rf, hci⟩
  · exact ev_thr rfl ⟨Nat.le_of_ble_eq_true rfl, Nat.le_of_ble_eq_true rfl⟩ ⟨Or.inr rfl, v, a, rfl, rz_cf.rf, hci⟩
theorem c_allPlainX {x n : Int32} (h : rz_okr x n) : rz_C xs xl 25 [.ref 1, .int x, .int n] (rz_w v a g) (rz_bo (rz_w v a g) True) := by
  obtain ⟨k, hk, rfl, h⟩ := h
  rcases h with rfl | ⟨p, rfl, hp⟩
  · exact c_allPlain0 x
  · exact c_allPlain hp
theorem rz_okr_of {x n : Int32} {m : Nat} (hv : v 0 = Int32.ofNat m) (hm : m ≤ 24) (h0 : ¬ n < 0) (h3 : ¬ 3 < n) (h : n = 0 ∨ (¬ x < 0 ∧ ¬ v 0 - n < x)) : rz_okr x n := by
  obtain ⟨k, hk, rfl⟩ := rz_nat h0
  have hk3 : k ≤ 3 := Nat.not_lt.mp fun q => h3 ((rz_lt_iff (n := 3) (by omega) hk).mpr q)
  refine ⟨k, hk3, rfl, ?_⟩
  rcases h with h | ⟨hx, hx2⟩
  · exact Or.inl ((rz_eq_iff (k := 0) hk (by omega)).mp h)
  · by_cases hk0 : k = 0
    · exact Or.inl hk0
    · right
      obtain ⟨p, hp, rfl⟩ := rz_nat hx
      refine ⟨p, rfl, ?_⟩
      rw [hv] at hx2
      by_cases hmk : k ≤ m
      · rw [rz_sub hmk, rz_lt_iff (by omega) hp] at hx2
        omega
      · exfalso
        apply hx2
        have e : Int32.ofNat m - Int32.ofNat k < 0 := by
          have : ∀ m' < 25, ∀ n' < 4, m' < n' → Int32.ofNat m' - Int32.ofNat n' < 0 := by decide +kernel
          exact this m (by omega) k (by omega) (by omega)
        exact Int32.lt_of_lt_of_le e (Int32.not_lt.mp hx)
theorem p_same (hci : rz_ci v) (x n y m z : Int32) : rz_C xs xl 68 [.ref 0, .int x, .int n, .int y, .int m, .int z] (rz_w v a g) (rz_cp v a g (fun q => rz_pi q ∨ q = .inr 0 ∨ q = .inr 2 ∨ q = .inr 3)) := by
  refine ev_ps 1 rfl (ev_if (cd := .lt) rfl (fun h1 => ?_) (fun h1 => ?_))
  · exact ev_thr rfl ⟨Nat.le_of_ble_eq_true rfl, Nat.le_of_ble_eq_true rfl⟩ ⟨Or.inr (Or.inl rfl), v, a, rfl, rz_cf.rf, hci⟩
  refine ev_ps 2 rfl (ev_ic (cd := .gt) rfl (fun h2 => ?_) (fun h2 => ?_))
  · exact ev_thr rfl ⟨Nat.le_of_ble_eq_true rfl, Nat.le_of_ble_eq_true rfl⟩ ⟨Or.inr (Or.inl rfl), v, a, rfl, rz_cf.rf, hci⟩
  refine ev_ps 1 rfl (ev_if (cd := .lt) rfl (fun h3 => ?_) (fun h3 => ?_))
  · exact ev_thr rfl ⟨Nat.le_of_ble_eq_true rfl, Nat.le_of_ble_eq_true rfl⟩ ⟨Or.inr (Or.inl rfl), v, a, rfl, rz_cf.rf, hci⟩
  refine ev_ps 2 rfl (ev_ic (cd := .le) rfl (fun h4 => ?_) (fun h4 => ?_))
  rotate_left
  · exact ev_thr rfl ⟨Nat.le_of_ble_eq_true rfl, Nat.le_of_ble_eq_true rfl⟩ ⟨Or.inr (Or.inl rfl), v, a, rfl, rz_cf.rf, hci⟩
  refine ev_ps 1 rfl (ev_if (cd := .lt) rfl (fun h5 => ?_) (fun h5 => ?_))
  · exact ev_thr rfl ⟨Nat.le_of_ble_eq_true rfl, Nat.le_of_ble_eq_true rfl⟩ ⟨Or.inr (Or.inl rfl), v, a, rfl, rz_cf.rf, hci⟩
  refine ev_ps 2 rfl (ev_ic (cd := .le) rfl (fun h6 => ?_) (fun h6 => ?_))
  rotate_left
  · exact ev_thr rfl ⟨Nat.le_of_ble_eq_true rfl, Nat.le_of_ble_eq_true rfl⟩ ⟨Or.inr (Or.inl rfl), v, a, rfl, rz_cf.rf, hci⟩
  obtain ⟨k, hk, hv⟩ := hci.1
  refine ev_ps 4 rfl (ev_call (av := [_, _, _]) rfl rfl rfl rfl ⟨Nat.le_of_ble_eq_true rfl, rfl⟩ ⟨Nat.le_of_ble_eq_true rfl, Nat.le_of_ble_eq_true rfl⟩ (c_hasAll _ _) ?_)
  rintro _ _ ⟨⟨u1, hu1, hP1, rfl⟩, rfl⟩
  refine ev_if (cd := .eq) rfl (fun h7 => ?_) (fun h7 => ?_)
  · exact ev_thr rfl ⟨Nat.le_of_ble_eq_true rfl, Nat.le_of_ble_eq_true rfl⟩ ⟨Or.inr (Or.inr (Or.inl rfl)), v, a, rfl, rz_cf.rf, hci⟩
  have o1 := rz_okr_of hv hk (rc_lt_f h1) (rc_gt_f h2) (hP1 (hu1.resolve_left (rc_eq_f h7)))
  refine ev_ps 4 rfl (ev_call (av := [_, _, _]) rfl rfl rfl rfl ⟨Nat.le_of_ble_eq_true rfl, rfl⟩ ⟨Nat.le_of_ble_eq_true rfl, Nat.le_of_ble_eq_true rfl⟩ (c_hasAll _ _) ?_)
  rintro _ _ ⟨⟨u2, hu2, hP2, rfl⟩, rfl⟩
  refine ev_if (cd := .ne) rfl (fun h8 => ?_) (fun h8 => ?_)
  rotate_left
  · exact ev_thr rfl ⟨Nat.le_of_ble_eq_true rfl, Nat.le_of_ble_eq_true rfl⟩ ⟨Or.inr (Or.inr (Or.inl rfl)), v, a, rfl, rz_cf.rf, hci⟩
  have o2 := rz_okr_of hv hk (rc_lt_f h3) (Int32.not_lt.mpr (rc_le_t h4)) (hP2 (hu2.resolve_left (rc_ne_t h8)))
  refine ev_ps 4 rfl (ev_call (av := [_, _, _]) rfl rfl rfl rfl ⟨Nat.le_of_ble_eq_true rfl, rfl⟩ ⟨Nat.le_of_ble_eq_true rfl, Nat.le_of_ble_eq_true rfl⟩ (c_allPlainX o1) ?_)
  rintro _ _ ⟨⟨u3, hu3, -, rfl⟩, rfl⟩
  refine ev_if (cd := .eq) rfl (fun h9 => ?_) (fun h9 => ?_)
  · exact ev_thr rfl ⟨Nat.le_of_ble_eq_true rfl, Nat.le_of_ble_eq_true rfl⟩ ⟨Or.inr (Or.inr (Or.inr rfl)), v, a, rfl, rz_cf.rf, hci⟩
  refine ev_ps 4 rfl (ev_call (av := [_, _, _]) rfl rfl rfl rfl ⟨Nat.le_of_ble_eq_true rfl, rfl⟩ ⟨Nat.le_of_ble_eq_true rfl, Nat.le_of_ble_eq_true rfl⟩ (c_allPlainX o2) ?_)
  rintro _ _ ⟨⟨u4, hu4, -, rfl⟩, rfl⟩
  refine ev_if (cd := .ne) rfl (fun h10 => ?_) (fun h10 => ?_)
  rotate_left
  · exact ev_thr rfl ⟨Nat.le_of_ble_eq_true rfl, Nat.le_of_ble_eq_true rfl⟩ ⟨Or.inr (Or.inr (Or.inr rfl)), v, a, rfl, rz_cf.rf, hci⟩
  refine ev_ps 9 rfl (ev_call (av := [_, _, _, _, _, _, _]) rfl rfl rfl rfl ⟨Nat.le_of_ble_eq_true rfl, rfl⟩ ⟨Nat.le_of_ble_eq_true rfl, Nat.le_of_ble_eq_true rfl⟩ (c_agreeInProgram _ o1 o2) ?_)
  rintro _ _ ⟨⟨u5, hu5, rfl⟩, k1, k2, d, f1, f2, hk1, hk2, rfl⟩
  exact ev_ret rfl (show (if u5 = 0 ∨ u5 = 1 then some (some (Value.int u5)) else none) = _ from if_pos hu5) ⟨Or.inl ⟨_, rfl⟩, _, _, rfl, ((((rz_cf.rf.up (by decide) _).up (by decide) _).up (by decide) d).ua (by decide) f1).ua (by decide) f2, hci⟩
/-- what one of the law's own methods leaves -/
def rz_hp (v : Nat → Int32) (a : Nat → Nat → Int32) : rz_R → rz_W → Prop := fun q w' => (∃ u, q = .inl (some (.int u))) ∧ ∃ v' a' g', w' = rz_w v' a' g' ∧ rz_cf v a v' a' ∧ rz_ci v'
theorem l_add (hci : rz_ci v) (x0 x1 x2 x3 : Int32) : rz_C xs xl 104 [.ref 0, .int x0, .int x1, .int x2, .int x3, .ref 35] (rz_w v a g) (rz_hp v a) := by
  refine ev_ps 7 rfl (ev_call (av := [_, _, _, _, _]) rfl rfl rfl rfl ⟨Nat.le_of_ble_eq_true rfl, rfl⟩ ⟨Nat.le_of_ble_eq_true rfl, Nat.le_of_ble_eq_true rfl⟩ (p_add hci _ _ _ _) ?_)
  rintro _ _ ⟨⟨u, rfl⟩ | rfl | rfl, v2, a2, rfl, h1, h2⟩
  · exact ev_ps 4 rfl (ev_ret rfl rfl ⟨⟨_, rfl⟩, _, _, _, rfl, h1, h2⟩)
  · exact ⟨19, 6, rfl, ev_ps 1 rfl (ev_ret rfl rfl ⟨⟨_, rfl⟩, _, _, _, rfl, h1, h2⟩)⟩
  · exact ⟨23, 6, rfl, ev_ps 1 rfl (ev_ret rfl rfl ⟨⟨_, rfl⟩, _, _, _, rfl, h1, h2⟩)⟩
theorem l_replace (hci : rz_ci v) (x0 x1 x2 x3 x4 : Int32) : rz_C xs xl 105 [.ref 0, .int x0, .int x1, .int x2, .int x3, .int x4] (rz_w v a g) (rz_hp v a) := by
  refine ev_ps 6 rfl (ev_call (av := [_, _, _, _, _, _]) rfl rfl rfl rfl ⟨Nat.le_of_ble_eq_true rfl, rfl⟩ ⟨Nat.le_of_ble_eq_true rfl, Nat.le_of_ble_eq_true rfl⟩ (p_replace hci _ _ _ _ _) ?_)
  rintro _ _ ⟨rfl | rfl | rfl, v2, a2, rfl, h1, h2⟩
  · exact ev_ps 2 rfl (ev_ret rfl rfl ⟨⟨_, rfl⟩, _, _, _, rfl, h1, h2⟩)
  · exact ⟨16, 6, rfl, ev_ps 1 rfl (ev_ret rfl rfl ⟨⟨_, rfl⟩, _, _, _, rfl, h1, h2⟩)⟩
  · exact ⟨20, 6, rfl, ev_ps 1 rfl (ev_ret rfl rfl ⟨⟨_, rfl⟩, _, _, _, rfl, h1, h2⟩)⟩
theorem l_instruction (hci : rz_ci v) (x0 x1 : Int32) : rz_C xs xl 106 [.ref 0, .int x0, .int x1, .ref 35] (rz_w v a g) (rz_hp v a) := by
  refine ev_ps 5 rfl (ev_call (av := [_, _, _]) rfl rfl rfl rfl ⟨Nat.le_of_ble_eq_true rfl, rfl⟩ ⟨Nat.le_of_ble_eq_true rfl, Nat.le_of_ble_eq_true rfl⟩ (p_instruction hci _ _) ?_)
  rintro _ _ ⟨⟨u, rfl⟩ | rfl | rfl, v2, a2, rfl, h1, h2⟩
  · exact ev_ps 4 rfl (ev_ret rfl rfl ⟨⟨_, rfl⟩, _, _, _, rfl, h1, h2⟩)
  · exact ⟨15, 4, rfl, ev_ps 1 rfl (ev_ret rfl rfl ⟨⟨_, rfl⟩, _, _, _, rfl, h1, h2⟩)⟩
  · exact ⟨19, 4, rfl, ev_ps 1 rfl (ev_ret rfl rfl ⟨⟨_, rfl⟩, _, _, _, rfl, h1, h2⟩)⟩
theorem l_run (hci : rz_ci v) (x0 : Int32) : rz_C xs xl 108 [.ref 0, .int x0, .ref 35] (rz_w v a g) (rz_hp v a) := by
  refine ev_ps 4 rfl (ev_call (av := [_, _]) rfl rfl rfl rfl ⟨Nat.le_of_ble_eq_true rfl, rfl⟩ ⟨Nat.le_of_ble_eq_true rfl, Nat.le_of_ble_eq_true rfl⟩ (p_run hci _) ?_)
  rintro _ _ ⟨⟨u, rfl⟩ | rfl, v2, a2, rfl, h1, h2⟩
  · exact ev_ps 4 rfl (ev_ret rfl rfl ⟨⟨_, rfl⟩, _, _, _, rfl, h1, h2⟩)
  · exact ⟨13, 3, rfl, ev_ps 1 rfl (ev_ret rfl rfl ⟨⟨_, rfl⟩, _, _, _, rfl, h1, h2⟩)⟩
theorem l_live (hci : rz_ci v) (x0 : Int32) : rz_C xs xl 109 [.ref 0, .int x0, .ref 35] (rz_w v a g) (rz_hp v a) := by
  refine ev_ps 4 rfl (ev_call (av := [_, _]) rfl rfl rfl rfl ⟨Nat.le_of_ble_eq_true rfl, rfl⟩ ⟨Nat.le_of_ble_eq_true rfl, Nat.le_of_ble_eq_true rfl⟩ (p_live hci _) ?_)
  rintro _ _ ⟨⟨u, rfl⟩ | rfl, v2, a2, rfl, h1, h2⟩
  · exact ev_ps 4 rfl (ev_ret rfl rfl ⟨⟨_, rfl⟩, _, _, _, rfl, h1, h2⟩)
  · exact ⟨13, 3, rfl, ev_ps 1 rfl (ev_ret rfl rfl ⟨⟨_, rfl⟩, _, _, _, rfl, h1, h2⟩)⟩
theorem l_block (hci : rz_ci v) (x0 : Int32) : rz_C xs xl 110 [.ref 0, .int x0, .ref 35] (rz_w v a g) (rz_hp v a) := by
  refine ev_ps 4 rfl (ev_call (av := [_, _]) rfl rfl rfl rfl ⟨Nat.le_of_ble_eq_true rfl, rfl⟩ ⟨Nat.le_of_ble_eq_true rfl, Nat.le_of_ble_eq_true rfl⟩ (p_block hci _) ?_)
  rintro _ _ ⟨⟨u, rfl⟩ | rfl, v2, a2, rfl, h1, h2⟩
  · exact ev_ps 4 rfl (ev_ret rfl rfl ⟨⟨_, rfl⟩, _, _, _, rfl, h1, h2⟩)
  · exact ⟨13, 3, rfl, ev_ps 1 rfl (ev_ret rfl rfl ⟨⟨_, rfl⟩, _, _, _, rfl, h1, h2⟩)⟩
theorem l_same (hci : rz_ci v) (x0 x1 x2 x3 x4 : Int32) : rz_C xs xl 111 [.ref 0, .int x0, .int x1, .int x2, .int x3, .int x4, .ref 35] (rz_w v a g) (rz_hp v a) := by
  refine ev_ps 8 rfl (ev_call (av := [_, _, _, _, _, _]) rfl rfl rfl rfl ⟨Nat.le_of_ble_eq_true rfl, rfl⟩ ⟨Nat.le_of_ble_eq_true rfl, Nat.le_of_ble_eq_true rfl⟩ (p_same hci _ _ _ _ _) ?_)
  rintro _ _ ⟨⟨u, rfl⟩ | rfl | rfl | rfl, v2, a2, rfl, h1, h2⟩
  · refine ev_if (cd := .eq) rfl (fun h => ?_) (fun h => ?_)
    · exact ev_ps 4 rfl (ev_ret rfl rfl ⟨⟨_, rfl⟩, _, _, _, rfl, h1, h2⟩)
    · exact ev_ps 5 rfl (ev_ret rfl rfl ⟨⟨_, rfl⟩, _, _, _, rfl, h1, h2⟩)
  · exact ⟨28, 7, rfl, ev_ps 1 rfl (ev_ret rfl rfl ⟨⟨_, rfl⟩, _, _, _, rfl, h1, h2⟩)⟩
  · exact ⟨32, 7, rfl, ev_ps 1 rfl (ev_ret rfl rfl ⟨⟨_, rfl⟩, _, _, _, rfl, h1, h2⟩)⟩
  · exact ⟨36, 7, rfl, ev_ps 1 rfl (ev_ret rfl rfl ⟨⟨_, rfl⟩, _, _, _, rfl, h1, h2⟩)⟩
theorem l_start (hci : rz_ci v) (x y : Int32) : rz_C xs xl 107 [.ref 0, .int x, .int y] (rz_w v a g) (fun q w' => ((q = .inl (some (.int 0)) ∧ rz_sok x y) ∨ (q = .inl (some (.int 1)) ∧ ¬ rz_sok x y)) ∧ ∃ v' a' g', w' = rz_w v' a' g' ∧ rz_cf v a v' a' ∧ rz_ci v') := by
  refine ev_ps 3 rfl (ev_call (av := [_, _, _]) rfl rfl rfl rfl ⟨Nat.le_of_ble_eq_true rfl, rfl⟩ ⟨Nat.le_of_ble_eq_true rfl, Nat.le_of_ble_eq_true rfl⟩ (p_start hci _ _) ?_)
  rintro _ _ ⟨⟨rfl, hs⟩ | ⟨rfl, hs⟩, v2, a2, rfl, h1, h2⟩
  · exact ev_ps 2 rfl (ev_ret rfl rfl ⟨Or.inl ⟨rfl, hs⟩, _, _, _, rfl, h1, h2⟩)
  · exact ⟨10, 3, rfl, ev_ps 1 rfl (ev_ret rfl rfl ⟨Or.inr ⟨rfl, hs⟩, _, _, _, rfl, h1, h2⟩)⟩
end RZP6
