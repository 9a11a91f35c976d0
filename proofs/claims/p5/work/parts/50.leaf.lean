/-! the small methods of the class: numbers alone -/
section RZL
variable {xs : Nat → Int32} {xl : Nat} {v : Nat → Int32} {a : Nat → Nat → Int32} {g : Nat → Int64} {w : rz_W}
theorem c_value (x0 x1 : Int32) : rz_C xs xl 7 [.int x0, .int x1] w (fun q w' => q = .inl (some (.int ((x0 >>> (x1 * 4 &&& 31)) &&& 15))) ∧ w' = w) := by
  exact ev_ps 7 rfl (ev_ret rfl rfl ⟨rfl, rfl⟩)
theorem c_t (x0 : Int32) : rz_C xs xl 15 [.int x0] w (fun q w' => q = .inl (some (.int (x0 &&& 31))) ∧ w' = w) := by
  exact ev_ps 3 rfl (ev_ret rfl rfl ⟨rfl, rfl⟩)
theorem c_operation (x0 : Int32) : rz_C xs xl 16 [.int x0] w (fun q w' => q = .inl (some (.int (x0 >>> (9 &&& 31)))) ∧ w' = w) := by
  exact ev_ps 3 rfl (ev_ret rfl rfl ⟨rfl, rfl⟩)
theorem c_d (x0 : Int32) : rz_C xs xl 18 [.int x0] w (fun q w' => q = .inl (some (.int (x0 >>> (7 &&& 31) &&& 3))) ∧ w' = w) := by
  exact ev_ps 5 rfl (ev_ret rfl rfl ⟨rfl, rfl⟩)
theorem c_s (x0 : Int32) : rz_C xs xl 20 [.int x0] w (fun q w' => q = .inl (some (.int (x0 >>> (5 &&& 31) &&& 3))) ∧ w' = w) := by
  exact ev_ps 5 rfl (ev_ret rfl rfl ⟨rfl, rfl⟩)
theorem c_pack (x0 x1 x2 x3 : Int32) : rz_C xs xl 42 [.int x0, .int x1, .int x2, .int x3] w (fun q w' => q = .inl (some (.int (x0 <<< 9 ||| x1 <<< 7 ||| x2 <<< 5 ||| x3))) ∧ w' = w) := by
  exact ev_ps 13 rfl (ev_ret rfl rfl ⟨rfl, rfl⟩)
theorem c_withTarget (x0 x1 : Int32) : rz_C xs xl 47 [.int x0, .int x1] w (fun q w' => q = .inl (some (.int ((x0 &&& -32) ||| x1))) ∧ w' = w) := by
  exact ev_ps 5 rfl (ev_ret rfl rfl ⟨rfl, rfl⟩)
theorem c_with (x0 x1 x2 : Int32) : rz_C xs xl 38 [.int x0, .int x1, .int x2] w (fun q w' => (∃ u, q = .inl (some (.int u))) ∧ w' = w) := by
  refine ev_ps 1 rfl (ev_if (cd := .ne) rfl (fun h1 => ?_) (fun h1 => ?_))
  · exact ev_ps 17 rfl (ev_ret rfl rfl ⟨⟨_, rfl⟩, rfl⟩)
  · exact ev_ps 1 rfl (ev_ret rfl rfl ⟨⟨_, rfl⟩, rfl⟩)
theorem c_greatestT (x0 : Int32) : rz_C xs xl 52 [.int x0] w (fun q w' => (∃ u, q = .inl (some (.int u))) ∧ w' = w) := by
  refine ev_ps 2 rfl (ev_ic (cd := .gt) rfl (fun h1 => ?_) (fun h1 => ?_))
  · refine ev_ps 2 rfl (ev_ic (cd := .gt) rfl (fun h2 => ?_) (fun h2 => ?_))
    · refine ev_ps 2 rfl (ev_ic (cd := .gt) rfl (fun h3 => ?_) (fun h3 => ?_))
      · refine ev_ps 2 rfl (ev_ic (cd := .ne) rfl (fun h4 => ?_) (fun h4 => ?_))
        · exact ev_ps 1 rfl (ev_ret rfl rfl ⟨⟨_, rfl⟩, rfl⟩)
        · exact ev_ps 2 rfl (ev_ret rfl rfl ⟨⟨_, rfl⟩, rfl⟩)
      · exact ev_ps 1 rfl (ev_ret rfl rfl ⟨⟨_, rfl⟩, rfl⟩)
    · exact ev_ps 1 rfl (ev_ret rfl rfl ⟨⟨_, rfl⟩, rfl⟩)
  · exact ev_ps 1 rfl (ev_ret rfl rfl ⟨⟨_, rfl⟩, rfl⟩)
theorem c_isPlain (x0 : Int32) : rz_C xs xl 26 [.int x0] w (fun q w' => (∃ u, (u = 0 ∨ u = 1) ∧ q = .inl (some (.int u))) ∧ w' = w) := by
  refine ev_ps 1 rfl (ev_call (av := [_]) rfl rfl rfl rfl ⟨Nat.le_of_ble_eq_true rfl, rfl⟩ ⟨Nat.le_of_ble_eq_true rfl, Nat.le_of_ble_eq_true rfl⟩ (c_operation _) ?_)
  rintro _ _ ⟨rfl, rfl⟩
  refine ev_ps 1 rfl (ev_ic (cd := .gt) rfl (fun h1 => ?_) (fun h1 => ?_))
  · exact ev_ps 1 rfl (ev_ret rfl rfl ⟨⟨_, by decide, rfl⟩, rfl⟩)
  · exact ev_ps 2 rfl (ev_ret rfl rfl ⟨⟨_, by decide, rfl⟩, rfl⟩)
theorem c_endsBlock (x0 : Int32) : rz_C xs xl 28 [.int x0] w (fun q w' => (∃ u, (u = 0 ∨ u = 1) ∧ q = .inl (some (.int u))) ∧ w' = w) := by
  refine ev_ps 1 rfl (ev_call (av := [_]) rfl rfl rfl rfl ⟨Nat.le_of_ble_eq_true rfl, rfl⟩ ⟨Nat.le_of_ble_eq_true rfl, Nat.le_of_ble_eq_true rfl⟩ (c_operation _) ?_)
  rintro _ _ ⟨rfl, rfl⟩
  refine ev_ps 1 rfl (ev_ic (cd := .lt) rfl (fun h1 => ?_) (fun h1 => ?_))
  · exact ev_ps 1 rfl (ev_ret rfl rfl ⟨⟨_, by decide, rfl⟩, rfl⟩)
  · exact ev_ps 2 rfl (ev_ret rfl rfl ⟨⟨_, by decide, rfl⟩, rfl⟩)
theorem c_hasTarget (x0 : Int32) : rz_C xs xl 29 [.int x0] w (fun q w' => (∃ u, (u = 0 ∨ u = 1) ∧ q = .inl (some (.int u))) ∧ w' = w) := by
  refine ev_ps 1 rfl (ev_call (av := [_]) rfl rfl rfl rfl ⟨Nat.le_of_ble_eq_true rfl, rfl⟩ ⟨Nat.le_of_ble_eq_true rfl, Nat.le_of_ble_eq_true rfl⟩ (c_operation _) ?_)
  rintro _ _ ⟨rfl, rfl⟩
  refine ev_ps 1 rfl (ev_ic (cd := .lt) rfl (fun h1 => ?_) (fun h1 => ?_))
  · exact ev_ps 1 rfl (ev_ret rfl rfl ⟨⟨_, by decide, rfl⟩, rfl⟩)
  · refine ev_ps 1 rfl (ev_call (av := [_]) rfl rfl rfl rfl ⟨Nat.le_of_ble_eq_true rfl, rfl⟩ ⟨Nat.le_of_ble_eq_true rfl, Nat.le_of_ble_eq_true rfl⟩ (c_operation _) ?_)
    rintro _ _ ⟨rfl, rfl⟩
    refine ev_ps 1 rfl (ev_ic (cd := .gt) rfl (fun h2 => ?_) (fun h2 => ?_))
    · exact ev_ps 1 rfl (ev_ret rfl rfl ⟨⟨_, by decide, rfl⟩, rfl⟩)
    · exact ev_ps 2 rfl (ev_ret rfl rfl ⟨⟨_, by decide, rfl⟩, rfl⟩)
theorem c_hasNumber (x0 : Int32) : rz_C xs xl 41 [.int x0] w (fun q w' => (∃ u, (u = 0 ∨ u = 1) ∧ q = .inl (some (.int u))) ∧ w' = w) := by
  refine ev_ps 1 rfl (ev_call (av := [_]) rfl rfl rfl rfl ⟨Nat.le_of_ble_eq_true rfl, rfl⟩ ⟨Nat.le_of_ble_eq_true rfl, Nat.le_of_ble_eq_true rfl⟩ (c_operation _) ?_)
  rintro _ _ ⟨rfl, rfl⟩
  refine ev_ps 1 rfl (ev_ic (cd := .lt) rfl (fun h1 => ?_) (fun h1 => ?_))
  · exact ev_ps 1 rfl (ev_ret rfl rfl ⟨⟨_, by decide, rfl⟩, rfl⟩)
  · refine ev_ps 1 rfl (ev_call (av := [_]) rfl rfl rfl rfl ⟨Nat.le_of_ble_eq_true rfl, rfl⟩ ⟨Nat.le_of_ble_eq_true rfl, Nat.le_of_ble_eq_true rfl⟩ (c_operation _) ?_)
    rintro _ _ ⟨rfl, rfl⟩
    refine ev_ps 1 rfl (ev_ic (cd := .gt) rfl (fun h2 => ?_) (fun h2 => ?_))
    · exact ev_ps 1 rfl (ev_ret rfl rfl ⟨⟨_, by decide, rfl⟩, rfl⟩)
    · exact ev_ps 2 rfl (ev_ret rfl rfl ⟨⟨_, by decide, rfl⟩, rfl⟩)
theorem c_isLegal (x0 x1 x2 x3 : Int32) : rz_C xs xl 51 [.int x0, .int x1, .int x2, .int x3] w (fun q w' => (∃ u, (u = 0 ∨ u = 1) ∧ q = .inl (some (.int u))) ∧ w' = w) := by
  refine ev_ps 1 rfl (ev_if (cd := .lt) rfl (fun h1 => ?_) (fun h1 => ?_))
  · exact ev_ps 1 rfl (ev_ret rfl rfl ⟨⟨_, by decide, rfl⟩, rfl⟩)
  · refine ev_ps 2 rfl (ev_ic (cd := .le) rfl (fun h2 => ?_) (fun h2 => ?_))
    · refine ev_ps 2 rfl (ev_ic (cd := .lt) rfl (fun h3 => ?_) (fun h3 => ?_))
      · refine ev_ps 3 rfl (ev_if (cd := .lt) rfl (fun h4 => ?_) (fun h4 => ?_))
        · exact ev_ps 1 rfl (ev_ret rfl rfl ⟨⟨_, by decide, rfl⟩, rfl⟩)
        · refine ev_ps 2 rfl (ev_ic (cd := .gt) rfl (fun h5 => ?_) (fun h5 => ?_))
          · exact ev_ps 1 rfl (ev_ret rfl rfl ⟨⟨_, by decide, rfl⟩, rfl⟩)
          · refine ev_ps 1 rfl (ev_if (cd := .lt) rfl (fun h6 => ?_) (fun h6 => ?_))
            · exact ev_ps 1 rfl (ev_ret rfl rfl ⟨⟨_, by decide, rfl⟩, rfl⟩)
            · refine ev_ps 2 rfl (ev_ic (cd := .gt) rfl (fun h7 => ?_) (fun h7 => ?_))
              · exact ev_ps 1 rfl (ev_ret rfl rfl ⟨⟨_, by decide, rfl⟩, rfl⟩)
              · refine ev_ps 1 rfl (ev_if (cd := .lt) rfl (fun h8 => ?_) (fun h8 => ?_))
                · exact ev_ps 1 rfl (ev_ret rfl rfl ⟨⟨_, by decide, rfl⟩, rfl⟩)
                · refine ev_ps 2 rfl (ev_call (av := [_]) rfl rfl rfl rfl ⟨Nat.le_of_ble_eq_true rfl, rfl⟩ ⟨Nat.le_of_ble_eq_true rfl, Nat.le_of_ble_eq_true rfl⟩ (c_greatestT _) ?_)
                  rintro _ _ ⟨⟨u, rfl⟩, rfl⟩
                  refine ev_ic (cd := .gt) rfl (fun h9 => ?_) (fun h9 => ?_)
                  · exact ev_ps 1 rfl (ev_ret rfl rfl ⟨⟨_, by decide, rfl⟩, rfl⟩)
                  · exact ev_ps 2 rfl (ev_ret rfl rfl ⟨⟨_, by decide, rfl⟩, rfl⟩)
      · refine ev_ps 4 rfl (ev_if (cd := .lt) rfl (fun h10 => ?_) (fun h10 => ?_))
        · exact ev_ps 1 rfl (ev_ret rfl rfl ⟨⟨_, by decide, rfl⟩, rfl⟩)
        · refine ev_ps 2 rfl (ev_ic (cd := .gt) rfl (fun h11 => ?_) (fun h11 => ?_))
          · exact ev_ps 1 rfl (ev_ret rfl rfl ⟨⟨_, by decide, rfl⟩, rfl⟩)
          · refine ev_ps 1 rfl (ev_if (cd := .lt) rfl (fun h12 => ?_) (fun h12 => ?_))
            · exact ev_ps 1 rfl (ev_ret rfl rfl ⟨⟨_, by decide, rfl⟩, rfl⟩)
            · refine ev_ps 2 rfl (ev_ic (cd := .gt) rfl (fun h13 => ?_) (fun h13 => ?_))
              · exact ev_ps 1 rfl (ev_ret rfl rfl ⟨⟨_, by decide, rfl⟩, rfl⟩)
              · refine ev_ps 1 rfl (ev_if (cd := .lt) rfl (fun h14 => ?_) (fun h14 => ?_))
                · exact ev_ps 1 rfl (ev_ret rfl rfl ⟨⟨_, by decide, rfl⟩, rfl⟩)
                · refine ev_ps 2 rfl (ev_call (av := [_]) rfl rfl rfl rfl ⟨Nat.le_of_ble_eq_true rfl, rfl⟩ ⟨Nat.le_of_ble_eq_true rfl, Nat.le_of_ble_eq_true rfl⟩ (c_greatestT _) ?_)
                  rintro _ _ ⟨⟨u, rfl⟩, rfl⟩
                  refine ev_ic (cd := .gt) rfl (fun h15 => ?_) (fun h15 => ?_)
                  · exact ev_ps 1 rfl (ev_ret rfl rfl ⟨⟨_, by decide, rfl⟩, rfl⟩)
                  · exact ev_ps 2 rfl (ev_ret rfl rfl ⟨⟨_, by decide, rfl⟩, rfl⟩)
    · exact ev_ps 1 rfl (ev_ret rfl rfl ⟨⟨_, by decide, rfl⟩, rfl⟩)
theorem c_writtenBy (x0 : Int32) : rz_C xs xl 17 [.int x0] w (fun q w' => (∃ u, q = .inl (some (.int u))) ∧ w' = w) := by
  refine ev_ps 1 rfl (ev_call (av := [_]) rfl rfl rfl rfl ⟨Nat.le_of_ble_eq_true rfl, rfl⟩ ⟨Nat.le_of_ble_eq_true rfl, Nat.le_of_ble_eq_true rfl⟩ (c_operation _) ?_)
  rintro _ _ ⟨rfl, rfl⟩
  refine ev_ps 1 rfl (ev_ic (cd := .gt) rfl (fun h1 => ?_) (fun h1 => ?_))
  · exact ev_ps 1 rfl (ev_ret rfl rfl ⟨⟨_, rfl⟩, rfl⟩)
  · refine ev_ps 2 rfl (ev_call (av := [_]) rfl rfl rfl rfl ⟨Nat.le_of_ble_eq_true rfl, rfl⟩ ⟨Nat.le_of_ble_eq_true rfl, Nat.le_of_ble_eq_true rfl⟩ (c_d _) ?_)
    rintro _ _ ⟨rfl, rfl⟩
    exact ev_ps 2 rfl (ev_ret rfl rfl ⟨⟨_, rfl⟩, rfl⟩)
theorem c_readBy (x0 : Int32) : rz_C xs xl 19 [.int x0] w (fun q w' => (∃ u, q = .inl (some (.int u))) ∧ w' = w) := by
  refine ev_ps 1 rfl (ev_call (av := [_]) rfl rfl rfl rfl ⟨Nat.le_of_ble_eq_true rfl, rfl⟩ ⟨Nat.le_of_ble_eq_true rfl, Nat.le_of_ble_eq_true rfl⟩ (c_operation _) ?_)
  rintro _ _ ⟨rfl, rfl⟩
  refine ev_ps 3 rfl (ev_ic (cd := .gt) rfl (fun h1 => ?_) (fun h1 => ?_))
  · refine ev_ps 2 rfl (ev_ic (cd := .gt) rfl (fun h2 => ?_) (fun h2 => ?_))
    · refine ev_ps 2 rfl (ev_ic (cd := .gt) rfl (fun h3 => ?_) (fun h3 => ?_))
      · refine ev_ps 2 rfl (ev_ic (cd := .ne) rfl (fun h4 => ?_) (fun h4 => ?_))
        · exact ev_ps 1 rfl (ev_ret rfl rfl ⟨⟨_, rfl⟩, rfl⟩)
        · exact ev_ps 2 rfl (ev_ret rfl rfl ⟨⟨_, rfl⟩, rfl⟩)
      · refine ev_ps 2 rfl (ev_call (av := [_]) rfl rfl rfl rfl ⟨Nat.le_of_ble_eq_true rfl, rfl⟩ ⟨Nat.le_of_ble_eq_true rfl, Nat.le_of_ble_eq_true rfl⟩ (c_d _) ?_)
        rintro _ _ ⟨rfl, rfl⟩
        refine ev_ps 3 rfl (ev_call (av := [_]) rfl rfl rfl rfl ⟨Nat.le_of_ble_eq_true rfl, rfl⟩ ⟨Nat.le_of_ble_eq_true rfl, Nat.le_of_ble_eq_true rfl⟩ (c_s _) ?_)
        rintro _ _ ⟨rfl, rfl⟩
        exact ev_ps 2 rfl (ev_ret rfl rfl ⟨⟨_, rfl⟩, rfl⟩)
    · refine ev_ps 2 rfl (ev_call (av := [_]) rfl rfl rfl rfl ⟨Nat.le_of_ble_eq_true rfl, rfl⟩ ⟨Nat.le_of_ble_eq_true rfl, Nat.le_of_ble_eq_true rfl⟩ (c_s _) ?_)
      rintro _ _ ⟨rfl, rfl⟩
      exact ev_ps 1 rfl (ev_ret rfl rfl ⟨⟨_, rfl⟩, rfl⟩)
  · refine ev_ps 2 rfl (ev_call (av := [_]) rfl rfl rfl rfl ⟨Nat.le_of_ble_eq_true rfl, rfl⟩ ⟨Nat.le_of_ble_eq_true rfl, Nat.le_of_ble_eq_true rfl⟩ (c_s _) ?_)
    rintro _ _ ⟨rfl, rfl⟩
    refine ev_ps 3 rfl (ev_call (av := [_]) rfl rfl rfl rfl ⟨Nat.le_of_ble_eq_true rfl, rfl⟩ ⟨Nat.le_of_ble_eq_true rfl, Nat.le_of_ble_eq_true rfl⟩ (c_t _) ?_)
    rintro _ _ ⟨rfl, rfl⟩
    exact ev_ps 2 rfl (ev_ret rfl rfl ⟨⟨_, rfl⟩, rfl⟩)
theorem c_part (x0 x1 : Int32) : rz_C xs xl 58 [.int x0, .int x1] w (fun q w' => (∃ u, q = .inl (some (.int u))) ∧ w' = w) := by
  refine ev_ps 1 rfl (ev_tsw rfl (fun t ht => ?_))
  rcases rz_mem4 ht with rfl | rfl | rfl | rfl
  · refine ev_ps 1 rfl (ev_call (av := [_]) rfl rfl rfl rfl ⟨Nat.le_of_ble_eq_true rfl, rfl⟩ ⟨Nat.le_of_ble_eq_true rfl, Nat.le_of_ble_eq_true rfl⟩ (c_t _) ?_)
    rintro _ _ ⟨rfl, rfl⟩
    exact ev_ret rfl rfl ⟨⟨_, rfl⟩, rfl⟩
  · refine ev_ps 1 rfl (ev_call (av := [_]) rfl rfl rfl rfl ⟨Nat.le_of_ble_eq_true rfl, rfl⟩ ⟨Nat.le_of_ble_eq_true rfl, Nat.le_of_ble_eq_true rfl⟩ (c_operation _) ?_)
    rintro _ _ ⟨rfl, rfl⟩
    exact ev_ret rfl rfl ⟨⟨_, rfl⟩, rfl⟩
  · refine ev_ps 1 rfl (ev_call (av := [_]) rfl rfl rfl rfl ⟨Nat.le_of_ble_eq_true rfl, rfl⟩ ⟨Nat.le_of_ble_eq_true rfl, Nat.le_of_ble_eq_true rfl⟩ (c_d _) ?_)
    rintro _ _ ⟨rfl, rfl⟩
    exact ev_ret rfl rfl ⟨⟨_, rfl⟩, rfl⟩
  · refine ev_ps 1 rfl (ev_call (av := [_]) rfl rfl rfl rfl ⟨Nat.le_of_ble_eq_true rfl, rfl⟩ ⟨Nat.le_of_ble_eq_true rfl, Nat.le_of_ble_eq_true rfl⟩ (c_s _) ?_)
    rintro _ _ ⟨rfl, rfl⟩
    exact ev_ret rfl rfl ⟨⟨_, rfl⟩, rfl⟩
theorem c_regsAfter (x0 x1 : Int32) : rz_C xs xl 37 [.int x0, .int x1] w (fun q w' => (∃ u, q = .inl (some (.int u))) ∧ w' = w) := by
  refine ev_ps 1 rfl (ev_call (av := [_]) rfl rfl rfl rfl ⟨Nat.le_of_ble_eq_true rfl, rfl⟩ ⟨Nat.le_of_ble_eq_true rfl, Nat.le_of_ble_eq_true rfl⟩ (c_operation _) ?_)
  rintro _ _ ⟨rfl, rfl⟩
  refine ev_ps 3 rfl (ev_call (av := [_]) rfl rfl rfl rfl ⟨Nat.le_of_ble_eq_true rfl, rfl⟩ ⟨Nat.le_of_ble_eq_true rfl, Nat.le_of_ble_eq_true rfl⟩ (c_s _) ?_)
  rintro _ _ ⟨rfl, rfl⟩
  refine ev_call (av := [_, _]) rfl rfl rfl rfl ⟨Nat.le_of_ble_eq_true rfl, rfl⟩ ⟨Nat.le_of_ble_eq_true rfl, Nat.le_of_ble_eq_true rfl⟩ (c_value _ _) ?_
  rintro _ _ ⟨rfl, rfl⟩
  refine ev_ps 3 rfl (ev_ic (cd := .gt) rfl (fun h1 => ?_) (fun h1 => ?_))
  · refine ev_ps 1 rfl (ev_call (av := [_]) rfl rfl rfl rfl ⟨Nat.le_of_ble_eq_true rfl, rfl⟩ ⟨Nat.le_of_ble_eq_true rfl, Nat.le_of_ble_eq_true rfl⟩ (c_t _) ?_)
    rintro _ _ ⟨rfl, rfl⟩
    refine ev_ps 2 rfl (ev_tsw rfl (fun t ht => ?_))
    rcases rz_mem11 ht with rfl | rfl | rfl | rfl | rfl | rfl | rfl | rfl | rfl | rfl | rfl
    · exact ev_ps 1 rfl (ev_ret rfl rfl ⟨⟨_, rfl⟩, rfl⟩)
    · refine ev_ps 7 rfl (ev_call (av := [_]) rfl rfl rfl rfl ⟨Nat.le_of_ble_eq_true rfl, rfl⟩ ⟨Nat.le_of_ble_eq_true rfl, Nat.le_of_ble_eq_true rfl⟩ (c_d _) ?_)
      rintro _ _ ⟨rfl, rfl⟩
      refine ev_ps 1 rfl (ev_call (av := [_, _, _]) rfl rfl rfl rfl ⟨Nat.le_of_ble_eq_true rfl, rfl⟩ ⟨Nat.le_of_ble_eq_true rfl, Nat.le_of_ble_eq_true rfl⟩ (c_with _ _ _) ?_)
      rintro _ _ ⟨⟨u, rfl⟩, rfl⟩
      exact ev_ret rfl rfl ⟨⟨_, rfl⟩, rfl⟩
    · refine ev_ps 7 rfl (ev_call (av := [_]) rfl rfl rfl rfl ⟨Nat.le_of_ble_eq_true rfl, rfl⟩ ⟨Nat.le_of_ble_eq_true rfl, Nat.le_of_ble_eq_true rfl⟩ (c_d _) ?_)
      rintro _ _ ⟨rfl, rfl⟩
      refine ev_ps 1 rfl (ev_call (av := [_, _, _]) rfl rfl rfl rfl ⟨Nat.le_of_ble_eq_true rfl, rfl⟩ ⟨Nat.le_of_ble_eq_true rfl, Nat.le_of_ble_eq_true rfl⟩ (c_with _ _ _) ?_)
      rintro _ _ ⟨⟨u, rfl⟩, rfl⟩
      exact ev_ret rfl rfl ⟨⟨_, rfl⟩, rfl⟩
    · refine ev_ps 7 rfl (ev_call (av := [_]) rfl rfl rfl rfl ⟨Nat.le_of_ble_eq_true rfl, rfl⟩ ⟨Nat.le_of_ble_eq_true rfl, Nat.le_of_ble_eq_true rfl⟩ (c_d _) ?_)
      rintro _ _ ⟨rfl, rfl⟩
      refine ev_ps 1 rfl (ev_call (av := [_, _, _]) rfl rfl rfl rfl ⟨Nat.le_of_ble_eq_true rfl, rfl⟩ ⟨Nat.le_of_ble_eq_true rfl, Nat.le_of_ble_eq_true rfl⟩ (c_with _ _ _) ?_)
      rintro _ _ ⟨⟨u, rfl⟩, rfl⟩
      exact ev_ret rfl rfl ⟨⟨_, rfl⟩, rfl⟩
    · refine ev_ps 7 rfl (ev_call (av := [_]) rfl rfl rfl rfl ⟨Nat.le_of_ble_eq_true rfl, rfl⟩ ⟨Nat.le_of_ble_eq_true rfl, Nat.le_of_ble_eq_true rfl⟩ (c_d _) ?_)
      rintro _ _ ⟨rfl, rfl⟩
      refine ev_ps 1 rfl (ev_call (av := [_, _, _]) rfl rfl rfl rfl ⟨Nat.le_of_ble_eq_true rfl, rfl⟩ ⟨Nat.le_of_ble_eq_true rfl, Nat.le_of_ble_eq_true rfl⟩ (c_with _ _ _) ?_)
      rintro _ _ ⟨⟨u, rfl⟩, rfl⟩
      exact ev_ret rfl rfl ⟨⟨_, rfl⟩, rfl⟩
    · refine ev_ps 7 rfl (ev_call (av := [_]) rfl rfl rfl rfl ⟨Nat.le_of_ble_eq_true rfl, rfl⟩ ⟨Nat.le_of_ble_eq_true rfl, Nat.le_of_ble_eq_true rfl⟩ (c_d _) ?_)
      rintro _ _ ⟨rfl, rfl⟩
      refine ev_ps 1 rfl (ev_call (av := [_, _, _]) rfl rfl rfl rfl ⟨Nat.le_of_ble_eq_true rfl, rfl⟩ ⟨Nat.le_of_ble_eq_true rfl, Nat.le_of_ble_eq_true rfl⟩ (c_with _ _ _) ?_)
      rintro _ _ ⟨⟨u, rfl⟩, rfl⟩
      exact ev_ret rfl rfl ⟨⟨_, rfl⟩, rfl⟩
    · refine ev_ps 2 rfl (ev_ic (cd := .ge) rfl (fun h2 => ?_) (fun h2 => ?_))
      · refine ev_ps 5 rfl (ev_call (av := [_]) rfl rfl rfl rfl ⟨Nat.le_of_ble_eq_true rfl, rfl⟩ ⟨Nat.le_of_ble_eq_true rfl, Nat.le_of_ble_eq_true rfl⟩ (c_d _) ?_)
        rintro _ _ ⟨rfl, rfl⟩
        refine ev_ps 1 rfl (ev_call (av := [_, _, _]) rfl rfl rfl rfl ⟨Nat.le_of_ble_eq_true rfl, rfl⟩ ⟨Nat.le_of_ble_eq_true rfl, Nat.le_of_ble_eq_true rfl⟩ (c_with _ _ _) ?_)
        rintro _ _ ⟨⟨u, rfl⟩, rfl⟩
        exact ev_ret rfl rfl ⟨⟨_, rfl⟩, rfl⟩
      · refine ev_ps 6 rfl (ev_call (av := [_]) rfl rfl rfl rfl ⟨Nat.le_of_ble_eq_true rfl, rfl⟩ ⟨Nat.le_of_ble_eq_true rfl, Nat.le_of_ble_eq_true rfl⟩ (c_d _) ?_)
        rintro _ _ ⟨rfl, rfl⟩
        refine ev_ps 1 rfl (ev_call (av := [_, _, _]) rfl rfl rfl rfl ⟨Nat.le_of_ble_eq_true rfl, rfl⟩ ⟨Nat.le_of_ble_eq_true rfl, Nat.le_of_ble_eq_true rfl⟩ (c_with _ _ _) ?_)
        rintro _ _ ⟨⟨u, rfl⟩, rfl⟩
        exact ev_ret rfl rfl ⟨⟨_, rfl⟩, rfl⟩
    · refine ev_ps 7 rfl (ev_call (av := [_]) rfl rfl rfl rfl ⟨Nat.le_of_ble_eq_true rfl, rfl⟩ ⟨Nat.le_of_ble_eq_true rfl, Nat.le_of_ble_eq_true rfl⟩ (c_d _) ?_)
      rintro _ _ ⟨rfl, rfl⟩
      refine ev_ps 1 rfl (ev_call (av := [_, _, _]) rfl rfl rfl rfl ⟨Nat.le_of_ble_eq_true rfl, rfl⟩ ⟨Nat.le_of_ble_eq_true rfl, Nat.le_of_ble_eq_true rfl⟩ (c_with _ _ _) ?_)
      rintro _ _ ⟨⟨u, rfl⟩, rfl⟩
      exact ev_ret rfl rfl ⟨⟨_, rfl⟩, rfl⟩
    · refine ev_ps 7 rfl (ev_call (av := [_]) rfl rfl rfl rfl ⟨Nat.le_of_ble_eq_true rfl, rfl⟩ ⟨Nat.le_of_ble_eq_true rfl, Nat.le_of_ble_eq_true rfl⟩ (c_d _) ?_)
      rintro _ _ ⟨rfl, rfl⟩
      refine ev_ps 1 rfl (ev_call (av := [_, _, _]) rfl rfl rfl rfl ⟨Nat.le_of_ble_eq_true rfl, rfl⟩ ⟨Nat.le_of_ble_eq_true rfl, Nat.le_of_ble_eq_true rfl⟩ (c_with _ _ _) ?_)
      rintro _ _ ⟨⟨u, rfl⟩, rfl⟩
      exact ev_ret rfl rfl ⟨⟨_, rfl⟩, rfl⟩
    · refine ev_ps 7 rfl (ev_call (av := [_]) rfl rfl rfl rfl ⟨Nat.le_of_ble_eq_true rfl, rfl⟩ ⟨Nat.le_of_ble_eq_true rfl, Nat.le_of_ble_eq_true rfl⟩ (c_d _) ?_)
      rintro _ _ ⟨rfl, rfl⟩
      refine ev_ps 1 rfl (ev_call (av := [_, _, _]) rfl rfl rfl rfl ⟨Nat.le_of_ble_eq_true rfl, rfl⟩ ⟨Nat.le_of_ble_eq_true rfl, Nat.le_of_ble_eq_true rfl⟩ (c_with _ _ _) ?_)
      rintro _ _ ⟨⟨u, rfl⟩, rfl⟩
      exact ev_ret rfl rfl ⟨⟨_, rfl⟩, rfl⟩
    · refine ev_ps 7 rfl (ev_call (av := [_]) rfl rfl rfl rfl ⟨Nat.le_of_ble_eq_true rfl, rfl⟩ ⟨Nat.le_of_ble_eq_true rfl, Nat.le_of_ble_eq_true rfl⟩ (c_d _) ?_)
      rintro _ _ ⟨rfl, rfl⟩
      refine ev_ps 1 rfl (ev_call (av := [_, _, _]) rfl rfl rfl rfl ⟨Nat.le_of_ble_eq_true rfl, rfl⟩ ⟨Nat.le_of_ble_eq_true rfl, Nat.le_of_ble_eq_true rfl⟩ (c_with _ _ _) ?_)
      rintro _ _ ⟨⟨u, rfl⟩, rfl⟩
      exact ev_ret rfl rfl ⟨⟨_, rfl⟩, rfl⟩
  · refine ev_ps 2 rfl (ev_call (av := [_]) rfl rfl rfl rfl ⟨Nat.le_of_ble_eq_true rfl, rfl⟩ ⟨Nat.le_of_ble_eq_true rfl, Nat.le_of_ble_eq_true rfl⟩ (c_t _) ?_)
    rintro _ _ ⟨rfl, rfl⟩
    refine ev_call (av := [_, _]) rfl rfl rfl rfl ⟨Nat.le_of_ble_eq_true rfl, rfl⟩ ⟨Nat.le_of_ble_eq_true rfl, Nat.le_of_ble_eq_true rfl⟩ (c_value _ _) ?_
    rintro _ _ ⟨rfl, rfl⟩
    refine ev_ps 3 rfl (ev_tsw rfl (fun t ht => ?_))
    rcases rz_mem11 ht with rfl | rfl | rfl | rfl | rfl | rfl | rfl | rfl | rfl | rfl | rfl
    · exact ev_ps 1 rfl (ev_ret rfl rfl ⟨⟨_, rfl⟩, rfl⟩)
    · refine ev_ps 7 rfl (ev_call (av := [_]) rfl rfl rfl rfl ⟨Nat.le_of_ble_eq_true rfl, rfl⟩ ⟨Nat.le_of_ble_eq_true rfl, Nat.le_of_ble_eq_true rfl⟩ (c_d _) ?_)
      rintro _ _ ⟨rfl, rfl⟩
      refine ev_ps 1 rfl (ev_call (av := [_, _, _]) rfl rfl rfl rfl ⟨Nat.le_of_ble_eq_true rfl, rfl⟩ ⟨Nat.le_of_ble_eq_true rfl, Nat.le_of_ble_eq_true rfl⟩ (c_with _ _ _) ?_)
      rintro _ _ ⟨⟨u, rfl⟩, rfl⟩
      exact ev_ret rfl rfl ⟨⟨_, rfl⟩, rfl⟩
    · refine ev_ps 7 rfl (ev_call (av := [_]) rfl rfl rfl rfl ⟨Nat.le_of_ble_eq_true rfl, rfl⟩ ⟨Nat.le_of_ble_eq_true rfl, Nat.le_of_ble_eq_true rfl⟩ (c_d _) ?_)
      rintro _ _ ⟨rfl, rfl⟩
      refine ev_ps 1 rfl (ev_call (av := [_, _, _]) rfl rfl rfl rfl ⟨Nat.le_of_ble_eq_true rfl, rfl⟩ ⟨Nat.le_of_ble_eq_true rfl, Nat.le_of_ble_eq_true rfl⟩ (c_with _ _ _) ?_)
      rintro _ _ ⟨⟨u, rfl⟩, rfl⟩
      exact ev_ret rfl rfl ⟨⟨_, rfl⟩, rfl⟩
    · refine ev_ps 7 rfl (ev_call (av := [_]) rfl rfl rfl rfl ⟨Nat.le_of_ble_eq_true rfl, rfl⟩ ⟨Nat.le_of_ble_eq_true rfl, Nat.le_of_ble_eq_true rfl⟩ (c_d _) ?_)
      rintro _ _ ⟨rfl, rfl⟩
      refine ev_ps 1 rfl (ev_call (av := [_, _, _]) rfl rfl rfl rfl ⟨Nat.le_of_ble_eq_true rfl, rfl⟩ ⟨Nat.le_of_ble_eq_true rfl, Nat.le_of_ble_eq_true rfl⟩ (c_with _ _ _) ?_)
      rintro _ _ ⟨⟨u, rfl⟩, rfl⟩
      exact ev_ret rfl rfl ⟨⟨_, rfl⟩, rfl⟩
    · refine ev_ps 7 rfl (ev_call (av := [_]) rfl rfl rfl rfl ⟨Nat.le_of_ble_eq_true rfl, rfl⟩ ⟨Nat.le_of_ble_eq_true rfl, Nat.le_of_ble_eq_true rfl⟩ (c_d _) ?_)
      rintro _ _ ⟨rfl, rfl⟩
      refine ev_ps 1 rfl (ev_call (av := [_, _, _]) rfl rfl rfl rfl ⟨Nat.le_of_ble_eq_true rfl, rfl⟩ ⟨Nat.le_of_ble_eq_true rfl, Nat.le_of_ble_eq_true rfl⟩ (c_with _ _ _) ?_)
      rintro _ _ ⟨⟨u, rfl⟩, rfl⟩
      exact ev_ret rfl rfl ⟨⟨_, rfl⟩, rfl⟩
    · refine ev_ps 7 rfl (ev_call (av := [_]) rfl rfl rfl rfl ⟨Nat.le_of_ble_eq_true rfl, rfl⟩ ⟨Nat.le_of_ble_eq_true rfl, Nat.le_of_ble_eq_true rfl⟩ (c_d _) ?_)
      rintro _ _ ⟨rfl, rfl⟩
      refine ev_ps 1 rfl (ev_call (av := [_, _, _]) rfl rfl rfl rfl ⟨Nat.le_of_ble_eq_true rfl, rfl⟩ ⟨Nat.le_of_ble_eq_true rfl, Nat.le_of_ble_eq_true rfl⟩ (c_with _ _ _) ?_)
      rintro _ _ ⟨⟨u, rfl⟩, rfl⟩
      exact ev_ret rfl rfl ⟨⟨_, rfl⟩, rfl⟩
    · refine ev_ps 2 rfl (ev_ic (cd := .ge) rfl (fun h3 => ?_) (fun h3 => ?_))
      · refine ev_ps 5 rfl (ev_call (av := [_]) rfl rfl rfl rfl ⟨Nat.le_of_ble_eq_true rfl, rfl⟩ ⟨Nat.le_of_ble_eq_true rfl, Nat.le_of_ble_eq_true rfl⟩ (c_d _) ?_)
        rintro _ _ ⟨rfl, rfl⟩
        refine ev_ps 1 rfl (ev_call (av := [_, _, _]) rfl rfl rfl rfl ⟨Nat.le_of_ble_eq_true rfl, rfl⟩ ⟨Nat.le_of_ble_eq_true rfl, Nat.le_of_ble_eq_true rfl⟩ (c_with _ _ _) ?_)
        rintro _ _ ⟨⟨u, rfl⟩, rfl⟩
        exact ev_ret rfl rfl ⟨⟨_, rfl⟩, rfl⟩
      · refine ev_ps 6 rfl (ev_call (av := [_]) rfl rfl rfl rfl ⟨Nat.le_of_ble_eq_true rfl, rfl⟩ ⟨Nat.le_of_ble_eq_true rfl, Nat.le_of_ble_eq_true rfl⟩ (c_d _) ?_)
        rintro _ _ ⟨rfl, rfl⟩
        refine ev_ps 1 rfl (ev_call (av := [_, _, _]) rfl rfl rfl rfl ⟨Nat.le_of_ble_eq_true rfl, rfl⟩ ⟨Nat.le_of_ble_eq_true rfl, Nat.le_of_ble_eq_true rfl⟩ (c_with _ _ _) ?_)
        rintro _ _ ⟨⟨u, rfl⟩, rfl⟩
        exact ev_ret rfl rfl ⟨⟨_, rfl⟩, rfl⟩
    · refine ev_ps 7 rfl (ev_call (av := [_]) rfl rfl rfl rfl ⟨Nat.le_of_ble_eq_true rfl, rfl⟩ ⟨Nat.le_of_ble_eq_true rfl, Nat.le_of_ble_eq_true rfl⟩ (c_d _) ?_)
      rintro _ _ ⟨rfl, rfl⟩
      refine ev_ps 1 rfl (ev_call (av := [_, _, _]) rfl rfl rfl rfl ⟨Nat.le_of_ble_eq_true rfl, rfl⟩ ⟨Nat.le_of_ble_eq_true rfl, Nat.le_of_ble_eq_true rfl⟩ (c_with _ _ _) ?_)
      rintro _ _ ⟨⟨u, rfl⟩, rfl⟩
      exact ev_ret rfl rfl ⟨⟨_, rfl⟩, rfl⟩
    · refine ev_ps 7 rfl (ev_call (av := [_]) rfl rfl rfl rfl ⟨Nat.le_of_ble_eq_true rfl, rfl⟩ ⟨Nat.le_of_ble_eq_true rfl, Nat.le_of_ble_eq_true rfl⟩ (c_d _) ?_)
      rintro _ _ ⟨rfl, rfl⟩
      refine ev_ps 1 rfl (ev_call (av := [_, _, _]) rfl rfl rfl rfl ⟨Nat.le_of_ble_eq_true rfl, rfl⟩ ⟨Nat.le_of_ble_eq_true rfl, Nat.le_of_ble_eq_true rfl⟩ (c_with _ _ _) ?_)
      rintro _ _ ⟨⟨u, rfl⟩, rfl⟩
      exact ev_ret rfl rfl ⟨⟨_, rfl⟩, rfl⟩
    · refine ev_ps 7 rfl (ev_call (av := [_]) rfl rfl rfl rfl ⟨Nat.le_of_ble_eq_true rfl, rfl⟩ ⟨Nat.le_of_ble_eq_true rfl, Nat.le_of_ble_eq_true rfl⟩ (c_d _) ?_)
      rintro _ _ ⟨rfl, rfl⟩
      refine ev_ps 1 rfl (ev_call (av := [_, _, _]) rfl rfl rfl rfl ⟨Nat.le_of_ble_eq_true rfl, rfl⟩ ⟨Nat.le_of_ble_eq_true rfl, Nat.le_of_ble_eq_true rfl⟩ (c_with _ _ _) ?_)
      rintro _ _ ⟨⟨u, rfl⟩, rfl⟩
      exact ev_ret rfl rfl ⟨⟨_, rfl⟩, rfl⟩
    · refine ev_ps 7 rfl (ev_call (av := [_]) rfl rfl rfl rfl ⟨Nat.le_of_ble_eq_true rfl, rfl⟩ ⟨Nat.le_of_ble_eq_true rfl, Nat.le_of_ble_eq_true rfl⟩ (c_d _) ?_)
      rintro _ _ ⟨rfl, rfl⟩
      refine ev_ps 1 rfl (ev_call (av := [_, _, _]) rfl rfl rfl rfl ⟨Nat.le_of_ble_eq_true rfl, rfl⟩ ⟨Nat.le_of_ble_eq_true rfl, Nat.le_of_ble_eq_true rfl⟩ (c_with _ _ _) ?_)
      rintro _ _ ⟨⟨u, rfl⟩, rfl⟩
      exact ev_ret rfl rfl ⟨⟨_, rfl⟩, rfl⟩
end RZL
