/-! the improver (place 13) -/
section RZP5
variable {xs : Nat → Int32} {xl : Nat} {v : Nat → Int32} {a : Nat → Nat → Int32} {g : Nat → Int64}
theorem c_counted (x : Int32) : rz_C xs xl 49 [.ref 13, .int x] (rz_w v a g) (fun q w' => (∃ u, q = .inl (some (.int u))) ∧ w' = rz_w v a g) := by
  refine ev_ps 1 rfl (ev_tsw rfl (fun t ht => ?_))
  rcases rz_mem4 ht with rfl | rfl | rfl | rfl
  · exact ev_ps 1 rfl (ev_ret rfl rfl ⟨⟨_, rfl⟩, rfl⟩)
  · exact ev_ps 2 rfl (ev_ret rfl rfl ⟨⟨_, rfl⟩, rfl⟩)
  · exact ev_ps 2 rfl (ev_ret rfl rfl ⟨⟨_, rfl⟩, rfl⟩)
  · exact ev_ps 2 rfl (ev_ret rfl rfl ⟨⟨_, rfl⟩, rfl⟩)
theorem c_nothingDoes {n : Nat} (x : Int32) (hv : v 11 = Int32.ofNat n) (hn : n ≤ 3) : rz_C xs xl 33 [.ref 13, .int x] (rz_w v a g) (fun q w' => (∃ u, (u = 0 ∨ u = 1) ∧ q = .inl (some (.int u))) ∧ ∃ d y c f, w' = rz_w (rz_up (rz_up (rz_up v 12 c) 15 y) 8 d) (rz_ua a 10 f) g) := by
  refine ev_ps 2 rfl (ev_call (av := [_]) rfl rfl rfl rfl ⟨Nat.le_of_ble_eq_true rfl, rfl⟩ ⟨Nat.le_of_ble_eq_true rfl, Nat.le_of_ble_eq_true rfl⟩ (c_takeNothing_23) ?_)
  rintro _ _ ⟨rfl, rfl⟩
  refine ev_ps 6 rfl (ev_w (w2 := rz_w (rz_up (rz_up v 12 0) 15 (v 15 + Int32.ofInt 1)) a g) rfl ?_)
  refine ev_ps 7 rfl (ev_call (av := [_, _, _, _]) rfl rfl rfl rfl ⟨Nat.le_of_ble_eq_true rfl, rfl⟩ ⟨Nat.le_of_ble_eq_true rfl, Nat.le_of_ble_eq_true rfl⟩ (c_agree_16 _ (n1 := n) (n2 := 0) hv hn rfl (by omega)) ?_)
  rintro _ _ ⟨⟨u, hu, rfl⟩, d, rfl⟩
  exact ev_ret rfl (show (if u = 0 ∨ u = 1 then some (some (Value.int u)) else none) = _ from if_pos hu) ⟨⟨u, hu, rfl⟩, d, _, 0, a 10, rfl⟩
theorem c_firstInstruction {n : Nat} (x : Int32) (hv : v 11 = Int32.ofNat n) (hn : n ≤ 3) : rz_C xs xl 39 [.ref 13, .int x] (rz_w v a g) (fun q w' => (∃ u, q = .inl (some (.int u))) ∧ ∃ d y c f, w' = rz_w (rz_up (rz_up (rz_up v 12 c) 15 y) 8 d) (rz_ua a 10 f) g) := by
  refine ev_ps 3 rfl (ev_call (av := [_]) rfl rfl rfl rfl ⟨Nat.le_of_ble_eq_true rfl, rfl⟩ ⟨Nat.le_of_ble_eq_true rfl, Nat.le_of_ble_eq_true rfl⟩ (c_numbers hv hn) ?_)
  rintro _ _ ⟨⟨N0, rfl⟩, rfl⟩
  refine ev_ps 4 rfl ?_
  suffices H : ∀ N : Int32, rz_E xs xl 39 13 [some (.ref 13), some (.int x), some (.int N), some (.int (Int32.ofNat 0)), none, none, none, none, none] [] (rz_w v a g) 0 0 (fun q w' => (∃ u, q = .inl (some (.int u))) ∧ ∃ d y c f, w' = rz_w (rz_up (rz_up (rz_up v 12 c) 15 y) 8 d) (rz_ua a 10 f) g) from H _
  intro N
  have Lt : ∀ (o ch i j : Int32), (∀ (t7 t8 : Option Value) (d y c : Int32) (f : Nat → Int32), rz_E xs xl 39 130 [some (.ref 13), some (.int x), some (.int N), some (.int o), some (.int ch), some (.int i), some (.int j), t7, t8] [] (rz_w (rz_up (rz_up (rz_up v 12 c) 15 y) 8 d) (rz_ua a 10 f) g) 0 0 (fun q w' => (∃ u, q = .inl (some (.int u))) ∧ ∃ d y c f, w' = rz_w (rz_up (rz_up (rz_up v 12 c) 15 y) 8 d) (rz_ua a 10 f) g)) → ∀ (t8 : Option Value) (d y c : Int32) (f : Nat → Int32), rz_E xs xl 39 53 [some (.ref 13), some (.int x), some (.int N), some (.int o), some (.int ch), some (.int i), some (.int j), some (.int (Int32.ofNat 0)), t8] [] (rz_w (rz_up (rz_up (rz_up v 12 c) 15 y) 8 d) (rz_ua a 10 f) g) 0 0 (fun q w' => (∃ u, q = .inl (some (.int u))) ∧ ∃ d y c f, w' = rz_w (rz_up (rz_up (rz_up v 12 c) 15 y) 8 d) (rz_ua a 10 f) g) := by
    intro o ch i j hK t8 d y c f
    refine ev_loop (α := Nat × Option Value × Int32 × Int32 × Int32 × (Nat → Int32)) (fun q => 16 - q.1) (fun q => q.1 ≤ 16) (fun q => [some (.ref 13), some (.int x), some (.int N), some (.int o), some (.int ch), some (.int i), some (.int j), some (.int (Int32.ofNat q.1)), q.2.1]) (fun _ => []) (fun q => rz_w (rz_up (rz_up (rz_up v 12 q.2.2.2.2.1) 15 q.2.2.2.1) 8 q.2.2.1) (rz_ua a 10 q.2.2.2.2.2) g) ?_ (0, t8, d, y, c, f) (Nat.zero_le _)
    rintro ⟨k, t8, d, y, c, f⟩ hk ih
    dsimp only at hk ih ⊢
    have next : k < 16 → ∀ (t8 : Option Value) (d y c : Int32) (f : Nat → Int32), rz_E xs xl 39 124 [some (.ref 13), some (.int x), some (.int N), some (.int o), some (.int ch), some (.int i), some (.int j), some (.int (Int32.ofNat k)), t8] [] (rz_w (rz_up (rz_up (rz_up v 12 c) 15 y) 8 d) (rz_ua a 10 f) g) 0 0 (fun q w' => (∃ u, q = .inl (some (.int u))) ∧ ∃ d y c f, w' = rz_w (rz_up (rz_up (rz_up v 12 c) 15 y) 8 d) (rz_ua a 10 f) g) := fun hk' t8 d y c f => by
      have h9 := ih (k + 1, t8, d, y, c, f) (by show k + 1 ≤ 16; omega) (by show 16 - (k + 1) < 16 - k; omega)
      dsimp only at h9
      rw [← rz_succ k] at h9
      exact ev_ps 2 rfl h9
    refine ev_ps 2 rfl (ev_ic (cd := .gt) rfl (fun h => hK _ _ _ _ _ _) (fun h => ?_))
    have hk' : k < 16 := by
      have : k ≤ 15 := rn_gt_f (k := 15) (by omega) (by omega) h
      omega
    refine ev_ps 6 rfl (ev_ic (cd := .ne) rfl (fun h => next hk' _ _ _ _ _) (fun h => ?_))
    refine ev_ps 4 rfl (ev_call (av := [_, _, _, _]) rfl rfl rfl rfl ⟨Nat.le_of_ble_eq_true rfl, rfl⟩ ⟨Nat.le_of_ble_eq_true rfl, Nat.le_of_ble_eq_true rfl⟩ (c_pack _ _ _ _) ?_)
    rintro _ _ ⟨rfl, rfl⟩
    refine ev_ps 4 rfl (ev_call (av := [_, _]) rfl rfl rfl rfl ⟨Nat.le_of_ble_eq_true rfl, rfl⟩ ⟨Nat.le_of_ble_eq_true rfl, Nat.le_of_ble_eq_true rfl⟩ (c_takeOne_23 _) ?_)
    rintro _ _ ⟨rfl, f2, rfl⟩
    refine ev_ps 6 rfl (ev_w (w2 := rz_w (rz_up (rz_up (rz_up v 12 1) 15 (y + Int32.ofInt 1)) 8 d) (rz_ua a 10 f2) g) rfl ?_)
    refine ev_ps 7 rfl (ev_call (av := [_, _, _, _]) rfl rfl rfl rfl ⟨Nat.le_of_ble_eq_true rfl, rfl⟩ ⟨Nat.le_of_ble_eq_true rfl, Nat.le_of_ble_eq_true rfl⟩ (c_agree_16 _ (n1 := n) (n2 := 1) hv hn rfl (by omega)) ?_)
    rintro _ _ ⟨⟨u, hu, rfl⟩, d2, rfl⟩
    refine ev_w (w2 := rz_w (rz_up (rz_up (rz_up v 12 1) 15 (y + Int32.ofInt 1)) 8 d2) (rz_ua a 10 f2) g) rfl ?_
    refine ev_if (cd := .eq) rfl (fun h => next hk' _ _ _ _ _) (fun h => ?_)
    exact ev_ps 1 rfl (ev_ret rfl rfl ⟨⟨_, rfl⟩, d2, _, 1, f2, rfl⟩)
  have Ls : ∀ (o ch i : Int32), (∀ (t6 t7 t8 : Option Value) (d y c : Int32) (f : Nat → Int32), rz_E xs xl 39 136 [some (.ref 13), some (.int x), some (.int N), some (.int o), some (.int ch), some (.int i), t6, t7, t8] [] (rz_w (rz_up (rz_up (rz_up v 12 c) 15 y) 8 d) (rz_ua a 10 f) g) 0 0 (fun q w' => (∃ u, q = .inl (some (.int u))) ∧ ∃ d y c f, w' = rz_w (rz_up (rz_up (rz_up v 12 c) 15 y) 8 d) (rz_ua a 10 f) g)) → ∀ (t7 t8 : Option Value) (d y c : Int32) (f : Nat → Int32), rz_E xs xl 39 44 [some (.ref 13), some (.int x), some (.int N), some (.int o), some (.int ch), some (.int i), some (.int (Int32.ofNat 0)), t7, t8] [] (rz_w (rz_up (rz_up (rz_up v 12 c) 15 y) 8 d) (rz_ua a 10 f) g) 0 0 (fun q w' => (∃ u, q = .inl (some (.int u))) ∧ ∃ d y c f, w' = rz_w (rz_up (rz_up (rz_up v 12 c) 15 y) 8 d) (rz_ua a 10 f) g) := by
    intro o ch i hK t7 t8 d y c f
    refine ev_loop (α := Nat × Option Value × Option Value ×  Int32 × Int32 × Int32 × (Nat → Int32)) (fun q => 4 - q.1) (fun q => q.1 ≤ 4) (fun q => [some (.ref 13), some (.int x), some (.int N), some (.int o), some (.int ch), some (.int i), some (.int (Int32.ofNat q.1)), q.2.1, q.2.2.1]) (fun _ => []) (fun q => rz_w (rz_up (rz_up (rz_up v 12 q.2.2.2.2.2.1) 15 q.2.2.2.2.1) 8 q.2.2.2.1) (rz_ua a 10 q.2.2.2.2.2.2) g) ?_ (0, t7, t8, d, y, c, f) (by show 0 ≤ 4; omega)
    rintro ⟨k, t7, t8, d, y, c, f⟩ hk ih
    dsimp only at hk ih ⊢
    have next : k < 4 → ∀ (t7 t8 : Option Value) (d y c : Int32) (f : Nat → Int32), rz_E xs xl 39 130 [some (.ref 13), some (.int x), some (.int N), some (.int o), some (.int ch), some (.int i), some (.int (Int32.ofNat k)), t7, t8] [] (rz_w (rz_up (rz_up (rz_up v 12 c) 15 y) 8 d) (rz_ua a 10 f) g) 0 0 (fun q w' => (∃ u, q = .inl (some (.int u))) ∧ ∃ d y c f, w' = rz_w (rz_up (rz_up (rz_up v 12 c) 15 y) 8 d) (rz_ua a 10 f) g) := fun hk' t7 t8 d y c f => by
      have h9 := ih (k + 1, t7, t8, d, y, c, f) (by show k + 1 ≤ 4; omega) (by show 4 - (k + 1) < 4 - k; omega)
      dsimp only at h9
      rw [← rz_succ k] at h9
      exact ev_ps 2 rfl h9
    refine ev_ps 2 rfl (ev_ic (cd := .ge) rfl (fun h => hK _ _ _ _ _ _ _) (fun h => ?_))
    have hk' : k < 4 := rn_ge_f (k := 4) (by omega) (by omega) h
    exact ev_ps 2 rfl (Lt o ch i (Int32.ofNat k) (fun t7 t8 d y c f => next hk' _ _ _ _ _ _) _ _ _ _ _)
  have Ld : ∀ (o ch : Int32), (∀ (t5 t6 t7 t8 : Option Value) (d y c : Int32) (f : Nat → Int32), rz_E xs xl 39 142 [some (.ref 13), some (.int x), some (.int N), some (.int o), some (.int ch), t5, t6, t7, t8] [] (rz_w (rz_up (rz_up (rz_up v 12 c) 15 y) 8 d) (rz_ua a 10 f) g) 0 0 (fun q w' => (∃ u, q = .inl (some (.int u))) ∧ ∃ d y c f, w' = rz_w (rz_up (rz_up (rz_up v 12 c) 15 y) 8 d) (rz_ua a 10 f) g)) → ∀ (t6 t7 t8 : Option Value) (d y c : Int32) (f : Nat → Int32), rz_E xs xl 39 35 [some (.ref 13), some (.int x), some (.int N), some (.int o), some (.int ch), some (.int (Int32.ofNat 1)), t6, t7, t8] [] (rz_w (rz_up (rz_up (rz_up v 12 c) 15 y) 8 d) (rz_ua a 10 f) g) 0 0 (fun q w' => (∃ u, q = .inl (some (.int u))) ∧ ∃ d y c f, w' = rz_w (rz_up (rz_up (rz_up v 12 c) 15 y) 8 d) (rz_ua a 10 f) g) := by
    intro o ch hK t6 t7 t8 d y c f
    refine ev_loop (α := Nat × Option Value × Option Value × Option Value ×  Int32 × Int32 × Int32 × (Nat → Int32)) (fun q => 4 - q.1) (fun q => q.1 ≤ 4) (fun q => [some (.ref 13), some (.int x), some (.int N), some (.int o), some (.int ch), some (.int (Int32.ofNat q.1)), q.2.1, q.2.2.1, q.2.2.2.1]) (fun _ => []) (fun q => rz_w (rz_up (rz_up (rz_up v 12 q.2.2.2.2.2.2.1) 15 q.2.2.2.2.2.1) 8 q.2.2.2.2.1) (rz_ua a 10 q.2.2.2.2.2.2.2) g) ?_ (1, t6, t7, t8, d, y, c, f) (by show 1 ≤ 4; omega)
    rintro ⟨k, t6, t7, t8, d, y, c, f⟩ hk ih
    dsimp only at hk ih ⊢
    have next : k < 4 → ∀ (t6 t7 t8 : Option Value) (d y c : Int32) (f : Nat → Int32), rz_E xs xl 39 136 [some (.ref 13), some (.int x), some (.int N), some (.int o), some (.int ch), some (.int (Int32.ofNat k)), t6, t7, t8] [] (rz_w (rz_up (rz_up (rz_up v 12 c) 15 y) 8 d) (rz_ua a 10 f) g) 0 0 (fun q w' => (∃ u, q = .inl (some (.int u))) ∧ ∃ d y c f, w' = rz_w (rz_up (rz_up (rz_up v 12 c) 15 y) 8 d) (rz_ua a 10 f) g) := fun hk' t6 t7 t8 d y c f => by
      have h9 := ih (k + 1, t6, t7, t8, d, y, c, f) (by show k + 1 ≤ 4; omega) (by show 4 - (k + 1) < 4 - k; omega)
      dsimp only at h9
      rw [← rz_succ k] at h9
      exact ev_ps 2 rfl h9
    refine ev_ps 2 rfl (ev_ic (cd := .ge) rfl (fun h => hK _ _ _ _ _ _ _ _) (fun h => ?_))
    have hk' : k < 4 := rn_ge_f (k := 4) (by omega) (by omega) h
    exact ev_ps 2 rfl (Ls o ch (Int32.ofNat k) (fun t6 t7 t8 d y c f => next hk' _ _ _ _ _ _ _) _ _ _ _ _ _)
  have Lo : ∀ (t4 t5 t6 t7 t8 : Option Value) (d y c : Int32) (f : Nat → Int32), rz_E xs xl 39 13 [some (.ref 13), some (.int x), some (.int N), some (.int (Int32.ofNat 0)), t4, t5, t6, t7, t8] [] (rz_w (rz_up (rz_up (rz_up v 12 c) 15 y) 8 d) (rz_ua a 10 f) g) 0 0 (fun q w' => (∃ u, q = .inl (some (.int u))) ∧ ∃ d y c f, w' = rz_w (rz_up (rz_up (rz_up v 12 c) 15 y) 8 d) (rz_ua a 10 f) g) := by
    intro t4 t5 t6 t7 t8 d y c f
    refine ev_loop (α := Nat × Option Value × Option Value × Option Value × Option Value × Option Value × Int32 × Int32 × Int32 × (Nat → Int32)) (fun q => 10 - q.1) (fun q => q.1 ≤ 10) (fun q => [some (.ref 13), some (.int x), some (.int N), some (.int (Int32.ofNat q.1)), q.2.1, q.2.2.1, q.2.2.2.1, q.2.2.2.2.1, q.2.2.2.2.2.1]) (fun _ => []) (fun q => rz_w (rz_up (rz_up (rz_up v 12 q.2.2.2.2.2.2.2.2.1) 15 q.2.2.2.2.2.2.2.1) 8 q.2.2.2.2.2.2.1) (rz_ua a 10 q.2.2.2.2.2.2.2.2.2) g) ?_ (0, t4, t5, t6, t7, t8, d, y, c, f) (Nat.zero_le _)
    rintro ⟨k, t4, t5, t6, t7, t8, d, y, c, f⟩ hk ih
    dsimp only at hk ih ⊢
    refine ev_ps 2 rfl (ev_ic (cd := .gt) rfl (fun h => ?_) (fun h => ?_))
    · exact ev_ps 1 rfl (ev_ret rfl rfl ⟨⟨_, rfl⟩, d, y, c, f, rfl⟩)
    · have hk' : k < 10 := by
        have : k ≤ 9 := rn_gt_f (k := 9) (by omega) (by omega) h
        omega
      have next : ∀ (t4 t5 t6 t7 t8 : Option Value) (d y c : Int32) (f : Nat → Int32), rz_E xs xl 39 142 [some (.ref 13), some (.int x), some (.int N), some (.int (Int32.ofNat k)), t4, t5, t6, t7, t8] [] (rz_w (rz_up (rz_up (rz_up v 12 c) 15 y) 8 d) (rz_ua a 10 f) g) 0 0 (fun q w' => (∃ u, q = .inl (some (.int u))) ∧ ∃ d y c f, w' = rz_w (rz_up (rz_up (rz_up v 12 c) 15 y) 8 d) (rz_ua a 10 f) g) := fun t4 t5 t6 t7 t8 d y c f => by
        have h9 := ih (k + 1, t4, t5, t6, t7, t8, d, y, c, f) (by show k + 1 ≤ 10; omega) (by show 10 - (k + 1) < 10 - k; omega)
        dsimp only at h9
        rw [← rz_succ k] at h9
        exact ev_ps 2 rfl h9
      refine ev_ps 2 rfl (ev_ic (cd := .gt) rfl (fun h => ?_) (fun h => ?_))
      · exact ev_ps 4 rfl (Ld (Int32.ofNat k) _ (fun t5 t6 t7 t8 d y c f => next _ _ _ _ _ _ _ _ _) _ _ _ _ _ _ _)
      · exact ev_ps 5 rfl (Ld (Int32.ofNat k) _ (fun t5 t6 t7 t8 d y c f => next _ _ _ _ _ _ _ _ _) _ _ _ _ _ _ _)
  exact ev_w (w2 := rz_w (rz_up (rz_up (rz_up v 12 (v 12)) 15 (v 15)) 8 (v 8)) (rz_ua a 10 (a 10)) g) rfl (Lo _ _ _ _ _ _ _ _ _)
theorem c_imprPutForRow {p n m : Nat} (x : Int32) (hv : v 0 = Int32.ofNat m) (hm : m ≤ 24) (hn1 : 1 ≤ n) (hpn : p + n ≤ m) : rz_C xs xl 44 [.ref 13, .ref 1, .int (Int32.ofNat p), .int (Int32.ofNat n), .int x] (rz_w v a g)
    (fun q w' => (∃ u, q = .inl (some (.int u))) ∧ ∃ (k : Nat) (r b : Int32) (f f2 : Nat → Int32), k ≤ 24 ∧ w' = rz_w (rz_up (rz_up (rz_up v 13 r) 14 b) 0 (Int32.ofNat k)) (rz_ua (rz_ua a 0 f) 6 f2) g) := by
  refine ev_ps 6 rfl (ev_w (w2 := rz_w (rz_up (rz_up v 13 (v 13 + Int32.ofInt 1)) 14 (v 14)) a g) rfl ?_)
  have main : ∀ b : Int32, rz_E xs xl 44 26 [some (.ref 13), some (.ref 1), some (.int (Int32.ofNat p)), some (.int (Int32.ofNat n)), some (.int x), none] [] (rz_w (rz_up (rz_up v 13 (v 13 + Int32.ofInt 1)) 14 b) a g) 0 0 (fun q w' => (∃ u, q = .inl (some (.int u))) ∧ ∃ (k : Nat) (r b : Int32) (f f2 : Nat → Int32), k ≤ 24 ∧ w' = rz_w (rz_up (rz_up (rz_up v 13 r) 14 b) 0 (Int32.ofNat k)) (rz_ua (rz_ua a 0 f) 6 f2) g) := by
    intro b
    refine ev_ps 4 rfl (ev_call (av := [_, _, _, _]) rfl rfl rfl rfl ⟨Nat.le_of_ble_eq_true rfl, rfl⟩ ⟨Nat.le_of_ble_eq_true rfl, Nat.le_of_ble_eq_true rfl⟩ (c_progPutForRow _ (m := m) hv hm hn1 hpn) ?_)
    rintro _ _ ⟨c, f, hc, rfl, rfl⟩
    refine ev_ps 4 rfl (ev_call (av := [_, _]) rfl rfl rfl rfl ⟨Nat.le_of_ble_eq_true rfl, rfl⟩ ⟨Nat.le_of_ble_eq_true rfl, Nat.le_of_ble_eq_true rfl⟩ (c_findFor_14 (n := m - (n - c)) rfl (by omega)) ?_)
    rintro _ _ ⟨rfl, f2, rfl⟩
    exact ev_ps 1 rfl (ev_ret rfl rfl ⟨⟨_, rfl⟩, m - (n - c), _, b, f, f2, by omega, rfl⟩)
  refine ev_ps 2 rfl (ev_ic (cd := .ne) rfl (fun h => main _) (fun h => ?_))
  exact ev_ps 6 rfl (ev_w (w2 := rz_w (rz_up (rz_up v 13 (v 13 + Int32.ofInt 1)) 14 (v 14 + Int32.ofInt 1)) a g) rfl (main _))
def rz_ci (v : Nat → Int32) : Prop := (∃ n : Nat, n ≤ 24 ∧ v 0 = Int32.ofNat n) ∧ (v 4 = 0 ∨ v 4 = 1)
def rz_cf (v : Nat → Int32) (a : Nat → Nat → Int32) (v' : Nat → Int32) (a' : Nat → Nat → Int32) : Prop := (∀ k, 20 ≤ k → v' k = v k) ∧ ∀ k, 20 ≤ k → a' k = a k
theorem rz_cf.rf {v : Nat → Int32} {a : Nat → Nat → Int32} : rz_cf v a v a := ⟨fun _ _ => rfl, fun _ _ => rfl⟩
theorem rz_cf.up {v v' : Nat → Int32} {a a' : Nat → Nat → Int32} (h : rz_cf v a v' a') {k : Nat} (hk : k < 20) (x : Int32) : rz_cf v a (rz_up v' k x) a' :=
  ⟨fun j hj => (if_neg (by omega)).trans (h.1 j hj), h.2⟩
theorem rz_cf.ua {v v' : Nat → Int32} {a a' : Nat → Nat → Int32} (h : rz_cf v a v' a') {k : Nat} (hk : k < 20) (f : Nat → Int32) : rz_cf v a v' (rz_ua a' k f) :=
  ⟨h.1, fun j hj => (if_neg (by omega)).trans (h.2 j hj)⟩
theorem rz_cf.tr {v v1 v2 : Nat → Int32} {a a1 a2 : Nat → Nat → Int32} (h : rz_cf v a v1 a1) (h2 : rz_cf v1 a1 v2 a2) : rz_cf v a v2 a2 :=
  ⟨fun j hj => (h2.1 j hj).trans (h.1 j hj), fun j hj => (h2.2 j hj).trans (h.2 j hj)⟩
/-- what a method of the class leaves: its own part of the world in order, the rest as it was -/
def rz_cp (v : Nat → Int32) (a : Nat → Nat → Int32) (g : Nat → Int64) (P : rz_R → Prop) : rz_R → rz_W → Prop := fun q w' => P q ∧ ∃ v' a', w' = rz_w v' a' g ∧ rz_cf v a v' a' ∧ rz_ci v'
def rz_pi : rz_R → Prop := fun q => ∃ u, q = .inl (some (.int u))
theorem c_improveAt {p m : Nat} (hci : rz_ci v) (hv : v 0 = Int32.ofNat m) (hm : m ≤ 24) (hp : p < m) : rz_C xs xl 22 [.ref 13, .ref 1, .int (Int32.ofNat p)] (rz_w v a g) (rz_cp v a g rz_pi) := by
  refine ev_ps 2 rfl ?_
  refine ev_loop (α := Nat × Option Value × Option Value × (Nat → Int32) × (Nat → Nat → Int32)) (fun q => q.1) (fun q => q.1 ≤ 3 ∧ rz_cf v a q.2.2.2.1 q.2.2.2.2 ∧ rz_ci q.2.2.2.1 ∧ q.2.2.2.1 0 = Int32.ofNat m) (fun q => [some (.ref 13), some (.ref 1), some (.int (Int32.ofNat p)), some (.int (Int32.ofNat q.1)), q.2.1, q.2.2.1]) (fun _ => []) (fun q => rz_w q.2.2.2.1 q.2.2.2.2 g) ?_ (3, none, none, v, a) ⟨by show 3 ≤ 3; omega, rz_cf.rf, hci, hv⟩
  rintro ⟨n, t4, t5, v1, a1⟩ ⟨hn, hcf, hci1, hv1⟩ ih
  dsimp only at hn hcf hci1 hv1 ih ⊢
  refine ev_ps 2 rfl (ev_ic (cd := .lt) rfl (fun h => ?_) (fun h => ?_))
  · exact ev_ps 3 rfl (ev_ret rfl rfl ⟨⟨_, rfl⟩, v1, a1, rfl, hcf, hci1⟩)
  · have hn1 : 1 ≤ n := rn_lt_f (k := 1) (by omega) (by omega) h
    have next : ∀ (t4 t5 : Option Value) (v2 : Nat → Int32) (a2 : Nat → Nat → Int32), rz_cf v a v2 a2 → rz_ci v2 → v2 0 = Int32.ofNat m → rz_E xs xl 22 90 [some (.ref 13), some (.ref 1), some (.int (Int32.ofNat p)), some (.int (Int32.ofNat n)), t4, t5] [] (rz_w v2 a2 g) 0 0 (rz_cp v a g rz_pi) := by
      intro t4 t5 v2 a2 hcf2 hci2 hv2
      have h9 := ih (n - 1, t4, t5, v2, a2) ⟨by show n - 1 ≤ 3; omega, hcf2, hci2, hv2⟩ (by show n - 1 < n; omega)
      dsimp only at h9
      rw [← rz_sub (k := n) (n := 1) hn1, show Int32.ofNat n - Int32.ofNat 1 = Int32.ofNat n + Int32.ofInt (-1) from Int32.sub_eq_add_neg _ _] at h9
      exact ev_ps 2 rfl h9
    refine ev_ps 3 rfl (ev_call (av := [_, _, _]) rfl rfl rfl rfl ⟨Nat.le_of_ble_eq_true rfl, rfl⟩ ⟨Nat.le_of_ble_eq_true rfl, Nat.le_of_ble_eq_true rfl⟩ (c_hasRow hv1 hm (by omega) hn hn1) ?_)
    rintro _ _ ⟨⟨u, hu, hP, rfl⟩, rfl⟩
    refine ev_if (cd := .eq) rfl (fun h1 => next _ _ _ _ hcf hci1 hv1) (fun h1 => ?_)
    have hpn : p + n ≤ m := hP (hu.resolve_left (rc_eq_f h1))
    refine ev_ps 5 rfl (ev_call (av := [_, _, _, _]) rfl rfl rfl rfl ⟨Nat.le_of_ble_eq_true rfl, rfl⟩ ⟨Nat.le_of_ble_eq_true rfl, Nat.le_of_ble_eq_true rfl⟩ (c_takeFrom_21 hn (by omega)) ?_)
    rintro _ _ ⟨rfl, f, rfl⟩
    refine ev_ps 7 rfl ?_
    refine ev_call (av := [.ref 14, .int (Int32.ofNat (p + n))]) rfl (by rw [← rz_add]; rfl) rfl rfl ⟨Nat.le_of_ble_eq_true rfl, rfl⟩ ⟨Nat.le_of_ble_eq_true rfl, Nat.le_of_ble_eq_true rfl⟩ (c_before_14 (by omega)) ?_
    rintro _ _ ⟨⟨u2, rfl⟩, rfl⟩
    refine ev_call (av := [_]) rfl rfl rfl rfl ⟨Nat.le_of_ble_eq_true rfl, rfl⟩ ⟨Nat.le_of_ble_eq_true rfl, Nat.le_of_ble_eq_true rfl⟩ (c_maskOf _) ?_
    rintro _ _ ⟨⟨u3, rfl⟩, rfl⟩
    refine ev_ps 3 rfl (ev_call (av := [_, _]) rfl rfl rfl rfl ⟨Nat.le_of_ble_eq_true rfl, rfl⟩ ⟨Nat.le_of_ble_eq_true rfl, Nat.le_of_ble_eq_true rfl⟩ (c_nothingDoes _ (n := n) rfl hn) ?_)
    rintro _ _ ⟨⟨u4, hu4, rfl⟩, d, y, c, f2, rfl⟩
    have tail : ∀ (t : Int32) (v2 : Nat → Int32) (a2 : Nat → Nat → Int32), rz_cf v a v2 a2 → rz_ci v2 → v2 0 = Int32.ofNat m → rz_E xs xl 22 71 [some (.ref 13), some (.ref 1), some (.int (Int32.ofNat p)), some (.int (Int32.ofNat n)), some (.int t), some (.int u3)] [] (rz_w v2 a2 g) 0 0 (rz_cp v a g rz_pi) := by
      intro t v2 a2 hcf2 hci2 hv2
      refine ev_ps 2 rfl (ev_ic (cd := .eq) rfl (fun h => next _ _ _ _ hcf2 hci2 hv2) (fun h => ?_))
      refine ev_ps 6 rfl (ev_call (av := [_, _, _, _, _]) rfl rfl rfl rfl ⟨Nat.le_of_ble_eq_true rfl, rfl⟩ ⟨Nat.le_of_ble_eq_true rfl, Nat.le_of_ble_eq_true rfl⟩ (c_imprPutForRow _ hv2 hm hn1 hpn) ?_)
      rintro _ _ ⟨⟨u5, rfl⟩, k, r, b, f3, f4, hk, rfl⟩
      exact ev_ps 1 rfl (ev_ret rfl rfl ⟨⟨_, rfl⟩, _, _, rfl, (((((hcf2.up (by decide) r).up (by decide) b).up (by decide) _).ua (by decide) f3).ua (by decide) f4), ⟨k, hk, rfl⟩, hci2.2⟩)
    have hcf3 : rz_cf v a (rz_up (rz_up (rz_up (rz_up v1 11 (Int32.ofNat n)) 12 c) 15 y) 8 d) (rz_ua (rz_ua a1 9 f) 10 f2) := (((((hcf.up (by decide) _).up (by decide) c).up (by decide) y).up (by decide) d).ua (by decide) f).ua (by decide) f2
    have hci3 : rz_ci (rz_up (rz_up (rz_up (rz_up v1 11 (Int32.ofNat n)) 12 c) 15 y) 8 d) := hci1
    refine ev_if (cd := .ne) rfl (fun h2 => ?_) (fun h2 => ?_)
    · exact tail _ _ _ hcf3 hci3 hv1
    · refine ev_ps 2 rfl (ev_ic (cd := .le) rfl (fun h3 => ?_) (fun h3 => ?_))
      · exact ev_ps 2 rfl (tail _ _ _ hcf3 hci3 hv1)
      · refine ev_ps 2 rfl (ev_call (av := [_, _]) rfl rfl rfl rfl ⟨Nat.le_of_ble_eq_true rfl, rfl⟩ ⟨Nat.le_of_ble_eq_true rfl, Nat.le_of_ble_eq_true rfl⟩ (c_firstInstruction _ (n := n) rfl hn) ?_)
        rintro _ _ ⟨⟨u5, rfl⟩, d2, y2, c2, f5, rfl⟩
        refine ev_ps 2 rfl (tail _ _ _ ((((hcf3.up (by decide) c2).up (by decide) y2).up (by decide) d2).ua (by decide) f5) hci3 hv1)
theorem c_improveProgram (hci : rz_ci v) : rz_C xs xl 9 [.ref 13, .ref 1] (rz_w v a g) (rz_cp v a g rz_pi) := by
  obtain ⟨n, hn, hv⟩ := hci.1
  refine ev_ps 1 rfl (ev_call (av := [_]) rfl rfl rfl rfl ⟨Nat.le_of_ble_eq_true rfl, rfl⟩ ⟨Nat.le_of_ble_eq_true rfl, Nat.le_of_ble_eq_true rfl⟩ (c_length) ?_)
  rintro _ _ ⟨rfl, rfl⟩
  refine ev_ps 4 rfl (ev_call (av := [_, _]) rfl rfl rfl rfl ⟨Nat.le_of_ble_eq_true rfl, rfl⟩ ⟨Nat.le_of_ble_eq_true rfl, Nat.le_of_ble_eq_true rfl⟩ (c_findFor_14 hv hn) ?_)
  rintro _ _ ⟨rfl, f, rfl⟩
  refine ev_ps 4 rfl ?_
  refine ev_loop (α := Nat × Int32 × (Nat → Int32) × (Nat → Nat → Int32)) (fun q => 24 - q.1) (fun q => q.1 ≤ 24 ∧ rz_cf v a q.2.2.1 q.2.2.2 ∧ rz_ci q.2.2.1) (fun q => [some (.ref 13), some (.ref 1), some (.int (v 0)), some (.int q.2.1), some (.int (Int32.ofNat q.1))]) (fun _ => []) (fun q => rz_w q.2.2.1 q.2.2.2 g) ?_ (0, 0, v, rz_ua a 6 f) ⟨Nat.zero_le _, rz_cf.rf.ua (by decide) f, hci⟩
  rintro ⟨k, x, v1, a1⟩ ⟨hk, hcf, hci1⟩ ih
  dsimp only at hk hcf hci1 ih ⊢
  have fin : rz_E xs xl 9 46 [some (.ref 13), some (.ref 1), some (.int (v 0)), some (.int x), some (.int (Int32.ofNat k))] [] (rz_w v1 a1 g) 0 0 (rz_cp v a g rz_pi) := by
    refine ev_ps 2 rfl (ev_call (av := [_]) rfl rfl rfl rfl ⟨Nat.le_of_ble_eq_true rfl, rfl⟩ ⟨Nat.le_of_ble_eq_true rfl, Nat.le_of_ble_eq_true rfl⟩ (c_length) ?_)
    rintro _ _ ⟨rfl, rfl⟩
    exact ev_ps 1 rfl (ev_ret rfl rfl ⟨⟨_, rfl⟩, v1, a1, rfl, hcf, hci1⟩)
  refine ev_ps 2 rfl (ev_ic (cd := .ge) rfl (fun h => fin) (fun h => ?_))
  have hk' : k < 24 := rn_ge_f (k := 24) (by omega) (by omega) h
  refine ev_ps 2 rfl (ev_call (av := [_, _]) rfl rfl rfl rfl ⟨Nat.le_of_ble_eq_true rfl, rfl⟩ ⟨Nat.le_of_ble_eq_true rfl, Nat.le_of_ble_eq_true rfl⟩ (c_has _) ?_)
  rintro _ _ ⟨⟨u, hu, hP, rfl⟩, rfl⟩
  refine ev_if (cd := .eq) rfl (fun h1 => fin) (fun h1 => ?_)
  obtain ⟨hx0, hx1⟩ := hP (hu.resolve_left (rc_eq_f h1))
  obtain ⟨n1, hn1, hv1⟩ := hci1.1
  rw [hv1] at hx1
  obtain ⟨p, hp, rfl⟩ := rz_idx (by omega) hx0 hx1
  refine ev_ps 3 rfl (ev_call (av := [_, _, _]) rfl rfl rfl rfl ⟨Nat.le_of_ble_eq_true rfl, rfl⟩ ⟨Nat.le_of_ble_eq_true rfl, Nat.le_of_ble_eq_true rfl⟩ (c_improveAt hci1 hv1 hn1 hp) ?_)
  rintro _ _ ⟨⟨u2, rfl⟩, v2, a2, rfl, hcf2, hci2⟩
  have h9 := ih (k + 1, u2, v2, a2) ⟨by show k + 1 ≤ 24; omega, hcf.tr hcf2, hci2⟩ (by show 24 - (k + 1) < 24 - k; omega)
  dsimp only at h9
  rw [← rz_succ k] at h9
  exact ev_ps 3 rfl h9
end RZP5
