/-! liveness and provers at each of their places -/
section RZP3
variable {xs : Nat → Int32} {xl : Nat} {v : Nat → Int32} {a : Nat → Nat → Int32} {g : Nat → Int64}
theorem rz_minIdx {n : Nat} (c : Int32) (hn : n ≤ 24) : ¬ ((if Int32.ofNat n < c &&& 31 then Int32.ofNat n else c &&& 31) < 0 ∨ 25 ≤ (if Int32.ofNat n < c &&& 31 then Int32.ofNat n else c &&& 31).toNatClampNeg) := by
  obtain ⟨j, hj, e⟩ := rz_mask c 31 (by decide)
  have e' : c &&& 31 = Int32.ofNat j := e
  rw [e']
  by_cases h : n < j
  · rw [if_pos ((rz_lt_iff (by omega) (by omega)).mpr h)]
    exact rz_in (by omega) (by decide)
  · rw [if_neg (fun q => h ((rz_lt_iff (by omega) (by omega)).mp q))]
    exact rz_in (by omega) (by decide)
theorem c_before_6 {k : Nat} (hk : k ≤ 24) : rz_C xs xl 31 [.ref 6, .int (Int32.ofNat k)] (rz_w v a g) (fun q w' => (∃ u, q = .inl (some (.int u))) ∧ w' = rz_w v a g) := by
  refine ev_ps 3 rfl (ev_ald rfl rfl (rz_in (by omega) (by decide)) ?_)
  exact ev_ret rfl rfl ⟨⟨_, rfl⟩, rfl⟩
theorem c_fill_6 (x : Int32) : rz_C xs xl 11 [.ref 7, .int x] (rz_w v a g) (fun q w' => q = .inl none ∧ ∃ f, w' = rz_w v (rz_ua a 3 f) g) := by
  refine ev_ps 5 rfl (ev_w (w2 := rz_w v (rz_ua a 3 (a 3)) g) rfl ?_)
  refine ev_loop (α := Nat × (Nat → Int32)) (fun q => 25 - q.1) (fun q => q.1 ≤ 25) (fun q => [some (.ref 7), some (.int x), some (.int (Int32.ofNat q.1)), some (.int (Int32.ofNat 25))]) (fun _ => []) (fun q => rz_w v (rz_ua a 3 q.2) g) ?_ (0, a 3) (Nat.zero_le _)
  rintro ⟨k, f⟩ hk ih
  dsimp only at hk ih ⊢
  refine ev_ps 2 rfl (ev_ic (cd := .ge) rfl (fun h => ?_) (fun h => ?_))
  · exact ev_ret rfl rfl ⟨rfl, f, rfl⟩
  · have hk' : k < 25 := rn_ge_f (by omega) (by omega) h
    refine ev_ps 3 rfl (ev_ast rfl rfl (rz_in hk' (by decide)) ?_)
    have h9 := fun f2 => ih (k + 1, f2) (by show k + 1 ≤ 25; omega) (by show 25 - (k + 1) < 25 - k; omega)
    dsimp only at h9
    rw [← rz_succ k] at h9
    exact ev_w (w2 := rz_w v (rz_ua a 3 (upd f (Int32.ofNat k).toNatClampNeg _)) g) rfl (ev_ps 2 rfl (h9 _))
theorem c_behind_6 {n k : Nat} (hv : v 0 = Int32.ofNat n) (hn : n ≤ 24) (hk : k < 24) : rz_C xs xl 14 [.ref 6, .ref 1, .int (Int32.ofNat k)] (rz_w v a g) (fun q w' => (∃ u, q = .inl (some (.int u))) ∧ w' = rz_w v a g) := by
  refine ev_ps 2 rfl (ev_call (av := [_, _]) rfl rfl rfl rfl ⟨Nat.le_of_ble_eq_true rfl, rfl⟩ ⟨Nat.le_of_ble_eq_true rfl, Nat.le_of_ble_eq_true rfl⟩ (c_codeAt (by omega)) ?_)
  rintro _ _ ⟨⟨c, rfl⟩, rfl⟩
  refine ev_ps 4 rfl (ev_call (av := [_]) rfl rfl rfl rfl ⟨Nat.le_of_ble_eq_true rfl, rfl⟩ ⟨Nat.le_of_ble_eq_true rfl, Nat.le_of_ble_eq_true rfl⟩ (c_t _) ?_)
  rintro _ _ ⟨rfl, rfl⟩
  refine ev_ps 1 rfl (ev_call (av := [_]) rfl rfl rfl rfl ⟨Nat.le_of_ble_eq_true rfl, rfl⟩ ⟨Nat.le_of_ble_eq_true rfl, Nat.le_of_ble_eq_true rfl⟩ (c_length) ?_)
  rintro _ _ ⟨rfl, rfl⟩
  refine ev_min rfl (Nat.le_of_ble_eq_true rfl) ?_
  refine ev_ald rfl rfl (by rw [hv]; exact rz_minIdx c hn) ?_
  have hin : ¬ (Int32.ofNat k + Int32.ofInt 1 < 0 ∨ 25 ≤ (Int32.ofNat k + Int32.ofInt 1).toNatClampNeg) := by
    rw [show Int32.ofNat k + Int32.ofInt 1 = Int32.ofNat (k + 1) from rz_succ k]
    exact rz_in (by omega) (by decide)
  refine ev_ps 2 rfl (ev_call (av := [_]) rfl rfl rfl rfl ⟨Nat.le_of_ble_eq_true rfl, rfl⟩ ⟨Nat.le_of_ble_eq_true rfl, Nat.le_of_ble_eq_true rfl⟩ (c_operation _) ?_)
  rintro _ _ ⟨rfl, rfl⟩
  refine ev_tsw rfl (fun t ht => ?_)
  rcases rz_mem4 ht with rfl | rfl | rfl | rfl
  · refine ev_ps 5 rfl (ev_ald rfl rfl hin ?_)
    exact ev_ret rfl rfl ⟨⟨_, rfl⟩, rfl⟩
  · refine ev_ps 5 rfl (ev_ald rfl rfl hin ?_)
    exact ev_ps 2 rfl (ev_ret rfl rfl ⟨⟨_, rfl⟩, rfl⟩)
  · refine ev_ps 5 rfl (ev_ald rfl rfl hin ?_)
    exact ev_ps 2 rfl (ev_ret rfl rfl ⟨⟨_, rfl⟩, rfl⟩)
  · exact ev_ps 1 rfl (ev_ret rfl rfl ⟨⟨_, rfl⟩, rfl⟩)
theorem c_findMore_6 {n : Nat} (hv : v 0 = Int32.ofNat n) (hn : n ≤ 24) : rz_C xs xl 12 [.ref 6, .ref 1] (rz_w v a g) (fun q w' => (∃ u, (u = 0 ∨ u = 1) ∧ q = .inl (some (.int u))) ∧ ∃ f, w' = rz_w v (rz_ua a 3 f) g) := by
  refine ev_ps 3 rfl (ev_call (av := [_]) rfl rfl rfl rfl ⟨Nat.le_of_ble_eq_true rfl, rfl⟩ ⟨Nat.le_of_ble_eq_true rfl, Nat.le_of_ble_eq_true rfl⟩ (c_length) ?_)
  rintro _ _ ⟨rfl, rfl⟩
  refine ev_ps 3 rfl ?_
  suffices H : ∀ (m : Int32) (t4 t5 t6 : Option Value) (k : Nat) (f : Nat → Int32), k ≤ n → (m = 0 ∨ m = 1) → rz_E xs xl 12 9 [some (.ref 6), some (.ref 1), some (.int m), some (.int (Int32.ofNat k - 1)), t4, t5, t6] [] (rz_w v (rz_ua a 3 f) g) 0 0 (fun q w' => (∃ u, (u = 0 ∨ u = 1) ∧ q = .inl (some (.int u))) ∧ ∃ f, w' = rz_w v (rz_ua a 3 f) g) by
    refine ev_l (L2 := [some (.ref 6), some (.ref 1), some (.int 0), some (.int (Int32.ofNat n - 1)), none, none, none]) (by rw [← hv]; rfl) ?_
    exact ev_w (w2 := rz_w v (rz_ua a 3 (a 3)) g) rfl (H 0 none none none n (a 3) (Nat.le_refl _) (Or.inl rfl))
  intro m t4 t5 t6 k f hk hm
  refine ev_loop (α := Nat × Int32 × Option Value × Option Value × Option Value × (Nat → Int32)) (fun q => q.1) (fun q => q.1 ≤ n ∧ (q.2.1 = 0 ∨ q.2.1 = 1)) (fun q => [some (.ref 6), some (.ref 1), some (.int q.2.1), some (.int (Int32.ofNat q.1 - 1)), q.2.2.1, q.2.2.2.1, q.2.2.2.2.1]) (fun _ => []) (fun q => rz_w v (rz_ua a 3 q.2.2.2.2.2) g) ?_ (k, m, t4, t5, t6, f) ⟨hk, hm⟩
  rintro ⟨k, m, t4, t5, t6, f⟩ ⟨hk, hm⟩ ih
  dsimp only at hk hm ih ⊢
  refine ev_ps 1 rfl (ev_if (cd := .lt) rfl (fun h => ?_) (fun h => ?_))
  · refine ev_ps 1 rfl (ev_ret rfl (show (if m = 0 ∨ m = 1 then some (some (Value.int m)) else none) = _ from if_pos hm) ⟨⟨_, hm, rfl⟩, _, rfl⟩)
  · have hk0 : 0 < k := by
      rcases Nat.eq_zero_or_pos k with rfl | h0
      · exact absurd (by decide : Int32.ofNat 0 - 1 < 0) (rc_lt_f h)
      · exact h0
    have e : Int32.ofNat k - 1 = Int32.ofNat (k - 1) := rz_sub (n := 1) hk0
    rw [e]
    have next : ∀ (m : Int32) (t4 t5 t6 : Option Value) (f : Nat → Int32), (m = 0 ∨ m = 1) → rz_E xs xl 12 70 [some (.ref 6), some (.ref 1), some (.int m), some (.int (Int32.ofNat (k - 1))), t4, t5, t6] [] (rz_w v (rz_ua a 3 f) g) 0 0 (fun q w' => (∃ u, (u = 0 ∨ u = 1) ∧ q = .inl (some (.int u))) ∧ ∃ f, w' = rz_w v (rz_ua a 3 f) g) := by
      intro m t4 t5 t6 f hm
      have h9 := ih (k - 1, m, t4, t5, t6, f) ⟨by show k - 1 ≤ n; omega, hm⟩ (by show k - 1 < k; omega)
      dsimp only at h9
      rw [show Int32.ofNat (k - 1) - 1 = Int32.ofNat (k - 1) + Int32.ofInt (-1) from Int32.sub_eq_add_neg _ _] at h9
      exact ev_ps 2 rfl h9
    refine ev_ps 2 rfl (ev_call (av := [_, _]) rfl rfl rfl rfl ⟨Nat.le_of_ble_eq_true rfl, rfl⟩ ⟨Nat.le_of_ble_eq_true rfl, Nat.le_of_ble_eq_true rfl⟩ (c_codeAt (by omega)) ?_)
    rintro _ _ ⟨⟨c, rfl⟩, rfl⟩
    refine ev_ps 4 rfl (ev_call (av := [_, _, _]) rfl rfl rfl rfl ⟨Nat.le_of_ble_eq_true rfl, rfl⟩ ⟨Nat.le_of_ble_eq_true rfl, Nat.le_of_ble_eq_true rfl⟩ (c_behind_6 hv hn (by omega)) ?_)
    rintro _ _ ⟨⟨b, rfl⟩, rfl⟩
    refine ev_ps 1 rfl (ev_call (av := [_]) rfl rfl rfl rfl ⟨Nat.le_of_ble_eq_true rfl, rfl⟩ ⟨Nat.le_of_ble_eq_true rfl, Nat.le_of_ble_eq_true rfl⟩ (c_writtenBy _) ?_)
    rintro _ _ ⟨⟨b2, rfl⟩, rfl⟩
    refine ev_ps 5 rfl (ev_call (av := [_]) rfl rfl rfl rfl ⟨Nat.le_of_ble_eq_true rfl, rfl⟩ ⟨Nat.le_of_ble_eq_true rfl, Nat.le_of_ble_eq_true rfl⟩ (c_readBy _) ?_)
    rintro _ _ ⟨⟨b3, rfl⟩, rfl⟩
    refine ev_ps 9 rfl (ev_ald rfl rfl (rz_in (by omega) (by decide)) ?_)
    refine ev_ic (cd := .eq) rfl (fun h2 => next _ _ _ _ _ hm) (fun h2 => ?_)
    refine ev_ps 4 rfl (ev_ast rfl rfl (rz_in (by omega) (by decide)) ?_)
    exact ev_w (w2 := rz_w v (rz_ua a 3 (upd f (Int32.ofNat (k - 1)).toNatClampNeg _)) g) rfl (ev_ps 2 rfl (next 1 _ _ _ _ (Or.inr rfl)))
theorem c_findFor_6 {n : Nat} (hv : v 0 = Int32.ofNat n) (hn : n ≤ 24) : rz_C xs xl 10 [.ref 6, .ref 1] (rz_w v a g) (fun q w' => q = .inl none ∧ ∃ f, w' = rz_w v (rz_ua a 3 f) g) := by
  refine ev_ps 3 rfl (ev_call (av := [_, _]) rfl rfl rfl rfl ⟨Nat.le_of_ble_eq_true rfl, rfl⟩ ⟨Nat.le_of_ble_eq_true rfl, Nat.le_of_ble_eq_true rfl⟩ (c_fill_6 _) ?_)
  rintro _ _ ⟨rfl, f0, rfl⟩
  refine ev_ps 3 rfl (ev_call (av := [_]) rfl rfl rfl rfl ⟨Nat.le_of_ble_eq_true rfl, rfl⟩ ⟨Nat.le_of_ble_eq_true rfl, Nat.le_of_ble_eq_true rfl⟩ (c_length) ?_)
  rintro _ _ ⟨rfl, rfl⟩
  refine ev_ps 1 rfl (ev_ast rfl rfl (by rw [hv]; exact rz_in (by omega) (by decide)) ?_)
  refine ev_w (w2 := rz_w v (rz_ua a 3 (upd f0 (v 0).toNatClampNeg _)) g) rfl ?_
  refine ev_ps 4 rfl ?_
  refine ev_loop (α := Nat × Int32 × (Nat → Int32)) (fun q => 73 - q.1) (fun q => q.1 ≤ 73) (fun q => [some (.ref 6), some (.ref 1), some (.int q.2.1), some (.int (Int32.ofNat q.1))]) (fun _ => []) (fun q => rz_w v (rz_ua a 3 q.2.2) g) ?_ (0, 1, _) (Nat.zero_le _)
  rintro ⟨k, m, f⟩ hk ih
  dsimp only at hk ih ⊢
  refine ev_ps 1 rfl (ev_if (cd := .eq) rfl (fun h => ?_) (fun h => ?_))
  · exact ev_ret rfl rfl ⟨rfl, f, rfl⟩
  · refine ev_ps 2 rfl (ev_ic (cd := .ge) rfl (fun h => ?_) (fun h => ?_))
    · exact ev_ret rfl rfl ⟨rfl, f, rfl⟩
    · have hk' : k < 73 := rn_ge_f (k := 73) (by omega) (by omega) h
      refine ev_ps 2 rfl (ev_call (av := [_, _]) rfl rfl rfl rfl ⟨Nat.le_of_ble_eq_true rfl, rfl⟩ ⟨Nat.le_of_ble_eq_true rfl, Nat.le_of_ble_eq_true rfl⟩ (c_findMore_6 (a := rz_ua a 3 f) hv hn) ?_)
      rintro _ _ ⟨⟨u, hu, rfl⟩, f2, rfl⟩
      have h9 := ih (k + 1, u, f2) (by show k + 1 ≤ 73; omega) (by show 73 - (k + 1) < 73 - k; omega)
      dsimp only at h9
      rw [← rz_succ k] at h9
      exact ev_w (w2 := rz_w v (rz_ua a 3 f2) g) rfl (ev_ps 3 rfl h9)
theorem c_before_14 {k : Nat} (hk : k ≤ 24) : rz_C xs xl 31 [.ref 14, .int (Int32.ofNat k)] (rz_w v a g) (fun q w' => (∃ u, q = .inl (some (.int u))) ∧ w' = rz_w v a g) := by
  refine ev_ps 3 rfl (ev_ald rfl rfl (rz_in (by omega) (by decide)) ?_)
  exact ev_ret rfl rfl ⟨⟨_, rfl⟩, rfl⟩
theorem c_fill_14 (x : Int32) : rz_C xs xl 11 [.ref 15, .int x] (rz_w v a g) (fun q w' => q = .inl none ∧ ∃ f, w' = rz_w v (rz_ua a 6 f) g) := by
  refine ev_ps 5 rfl (ev_w (w2 := rz_w v (rz_ua a 6 (a 6)) g) rfl ?_)
  refine ev_loop (α := Nat × (Nat → Int32)) (fun q => 25 - q.1) (fun q => q.1 ≤ 25) (fun q => [some (.ref 15), some (.int x), some (.int (Int32.ofNat q.1)), some (.int (Int32.ofNat 25))]) (fun _ => []) (fun q => rz_w v (rz_ua a 6 q.2) g) ?_ (0, a 6) (Nat.zero_le _)
  rintro ⟨k, f⟩ hk ih
  dsimp only at hk ih ⊢
  refine ev_ps 2 rfl (ev_ic (cd := .ge) rfl (fun h => ?_) (fun h => ?_))
  · exact ev_ret rfl rfl ⟨rfl, f, rfl⟩
  · have hk' : k < 25 := rn_ge_f (by omega) (by omega) h
    refine ev_ps 3 rfl (ev_ast rfl rfl (rz_in hk' (by decide)) ?_)
    have h9 := fun f2 => ih (k + 1, f2) (by show k + 1 ≤ 25; omega) (by show 25 - (k + 1) < 25 - k; omega)
    dsimp only at h9
    rw [← rz_succ k] at h9
    exact ev_w (w2 := rz_w v (rz_ua a 6 (upd f (Int32.ofNat k).toNatClampNeg _)) g) rfl (ev_ps 2 rfl (h9 _))
theorem c_behind_14 {n k : Nat} (hv : v 0 = Int32.ofNat n) (hn : n ≤ 24) (hk : k < 24) : rz_C xs xl 14 [.ref 14, .ref 1, .int (Int32.ofNat k)] (rz_w v a g) (fun q w' => (∃ u, q = .inl (some (.int u))) ∧ w' = rz_w v a g) := by
  refine ev_ps 2 rfl (ev_call (av := [_, _]) rfl rfl rfl rfl ⟨Nat.le_of_ble_eq_true rfl, rfl⟩ ⟨Nat.le_of_ble_eq_true rfl, Nat.le_of_ble_eq_true rfl⟩ (c_codeAt (by omega)) ?_)
  rintro _ _ ⟨⟨c, rfl⟩, rfl⟩
  refine ev_ps 4 rfl (ev_call (av := [_]) rfl rfl rfl rfl ⟨Nat.le_of_ble_eq_true rfl, rfl⟩ ⟨Nat.le_of_ble_eq_true rfl, Nat.le_of_ble_eq_true rfl⟩ (c_t _) ?_)
  rintro _ _ ⟨rfl, rfl⟩
  refine ev_ps 1 rfl (ev_call (av := [_]) rfl rfl rfl rfl ⟨Nat.le_of_ble_eq_true rfl, rfl⟩ ⟨Nat.le_of_ble_eq_true rfl, Nat.le_of_ble_eq_true rfl⟩ (c_length) ?_)
  rintro _ _ ⟨rfl, rfl⟩
  refine ev_min rfl (Nat.le_of_ble_eq_true rfl) ?_
  refine ev_ald rfl rfl (by rw [hv]; exact rz_minIdx c hn) ?_
  have hin : ¬ (Int32.ofNat k + Int32.ofInt 1 < 0 ∨ 25 ≤ (Int32.ofNat k + Int32.ofInt 1).toNatClampNeg) := by
    rw [show Int32.ofNat k + Int32.ofInt 1 = Int32.ofNat (k + 1) from rz_succ k]
    exact rz_in (by omega) (by decide)
  refine ev_ps 2 rfl (ev_call (av := [_]) rfl rfl rfl rfl ⟨Nat.le_of_ble_eq_true rfl, rfl⟩ ⟨Nat.le_of_ble_eq_true rfl, Nat.le_of_ble_eq_true rfl⟩ (c_operation _) ?_)
  rintro _ _ ⟨rfl, rfl⟩
  refine ev_tsw rfl (fun t ht => ?_)
  rcases rz_mem4 ht with rfl | rfl | rfl | rfl
  · refine ev_ps 5 rfl (ev_ald rfl rfl hin ?_)
    exact ev_ret rfl rfl ⟨⟨_, rfl⟩, rfl⟩
  · refine ev_ps 5 rfl (ev_ald rfl rfl hin ?_)
    exact ev_ps 2 rfl (ev_ret rfl rfl ⟨⟨_, rfl⟩, rfl⟩)
  · refine ev_ps 5 rfl (ev_ald rfl rfl hin ?_)
    exact ev_ps 2 rfl (ev_ret rfl rfl ⟨⟨_, rfl⟩, rfl⟩)
  · exact ev_ps 1 rfl (ev_ret rfl rfl ⟨⟨_, rfl⟩, rfl⟩)
theorem c_findMore_14 {n : Nat} (hv : v 0 = Int32.ofNat n) (hn : n ≤ 24) : rz_C xs xl 12 [.ref 14, .ref 1] (rz_w v a g) (fun q w' => (∃ u, (u = 0 ∨ u = 1) ∧ q = .inl (some (.int u))) ∧ ∃ f, w' = rz_w v (rz_ua a 6 f) g) := by
  refine ev_ps 3 rfl (ev_call (av := [_]) rfl rfl rfl rfl ⟨Nat.le_of_ble_eq_true rfl, rfl⟩ ⟨Nat.le_of_ble_eq_true rfl, Nat.le_of_ble_eq_true rfl⟩ (c_length) ?_)
  rintro _ _ ⟨rfl, rfl⟩
  refine ev_ps 3 rfl ?_
  suffices H : ∀ (m : Int32) (t4 t5 t6 : Option Value) (k : Nat) (f : Nat → Int32), k ≤ n → (m = 0 ∨ m = 1) → rz_E xs xl 12 9 [some (.ref 14), some (.ref 1), some (.int m), some (.int (Int32.ofNat k - 1)), t4, t5, t6] [] (rz_w v (rz_ua a 6 f) g) 0 0 (fun q w' => (∃ u, (u = 0 ∨ u = 1) ∧ q = .inl (some (.int u))) ∧ ∃ f, w' = rz_w v (rz_ua a 6 f) g) by
    refine ev_l (L2 := [some (.ref 14), some (.ref 1), some (.int 0), some (.int (Int32.ofNat n - 1)), none, none, none]) (by rw [← hv]; rfl) ?_
    exact ev_w (w2 := rz_w v (rz_ua a 6 (a 6)) g) rfl (H 0 none none none n (a 6) (Nat.le_refl _) (Or.inl rfl))
  intro m t4 t5 t6 k f hk hm
  refine ev_loop (α := Nat × Int32 × Option Value × Option Value × Option Value × (Nat → Int32)) (fun q => q.1) (fun q => q.1 ≤ n ∧ (q.2.1 = 0 ∨ q.2.1 = 1)) (fun q => [some (.ref 14), some (.ref 1), some (.int q.2.1), some (.int (Int32.ofNat q.1 - 1)), q.2.2.1, q.2.2.2.1, q.2.2.2.2.1]) (fun _ => []) (fun q => rz_w v (rz_ua a 6 q.2.2.2.2.2) g) ?_ (k, m, t4, t5, t6, f) ⟨hk, hm⟩
  rintro ⟨k, m, t4, t5, t6, f⟩ ⟨hk, hm⟩ ih
  dsimp only at hk hm ih ⊢
  refine ev_ps 1 rfl (ev_if (cd := .lt) rfl (fun h => ?_) (fun h => ?_))
  · refine ev_ps 1 rfl (ev_ret rfl (show (if m = 0 ∨ m = 1 then some (some (Value.int m)) else none) = _ from if_pos hm) ⟨⟨_, hm, rfl⟩, _, rfl⟩)
  · have hk0 : 0 < k := by
      rcases Nat.eq_zero_or_pos k with rfl | h0
      · exact absurd (by decide : Int32.ofNat 0 - 1 < 0) (rc_lt_f h)
      · exact h0
    have e : Int32.ofNat k - 1 = Int32.ofNat (k - 1) := rz_sub (n := 1) hk0
    rw [e]
    have next : ∀ (m : Int32) (t4 t5 t6 : Option Value) (f : Nat → Int32), (m = 0 ∨ m = 1) → rz_E xs xl 12 70 [some (.ref 14), some (.ref 1), some (.int m), some (.int (Int32.ofNat (k - 1))), t4, t5, t6] [] (rz_w v (rz_ua a 6 f) g) 0 0 (fun q w' => (∃ u, (u = 0 ∨ u = 1) ∧ q = .inl (some (.int u))) ∧ ∃ f, w' = rz_w v (rz_ua a 6 f) g) := by
      intro m t4 t5 t6 f hm
      have h9 := ih (k - 1, m, t4, t5, t6, f) ⟨by show k - 1 ≤ n; omega, hm⟩ (by show k - 1 < k; omega)
      dsimp only at h9
      rw [show Int32.ofNat (k - 1) - 1 = Int32.ofNat (k - 1) + Int32.ofInt (-1) from Int32.sub_eq_add_neg _ _] at h9
      exact ev_ps 2 rfl h9
    refine ev_ps 2 rfl (ev_call (av := [_, _]) rfl rfl rfl rfl ⟨Nat.le_of_ble_eq_true rfl, rfl⟩ ⟨Nat.le_of_ble_eq_true rfl, Nat.le_of_ble_eq_true rfl⟩ (c_codeAt (by omega)) ?_)
    rintro _ _ ⟨⟨c, rfl⟩, rfl⟩
    refine ev_ps 4 rfl (ev_call (av := [_, _, _]) rfl rfl rfl rfl ⟨Nat.le_of_ble_eq_true rfl, rfl⟩ ⟨Nat.le_of_ble_eq_true rfl, Nat.le_of_ble_eq_true rfl⟩ (c_behind_14 hv hn (by omega)) ?_)
    rintro _ _ ⟨⟨b, rfl⟩, rfl⟩
    refine ev_ps 1 rfl (ev_call (av := [_]) rfl rfl rfl rfl ⟨Nat.le_of_ble_eq_true rfl, rfl⟩ ⟨Nat.le_of_ble_eq_true rfl, Nat.le_of_ble_eq_true rfl⟩ (c_writtenBy _) ?_)
    rintro _ _ ⟨⟨b2, rfl⟩, rfl⟩
    refine ev_ps 5 rfl (ev_call (av := [_]) rfl rfl rfl rfl ⟨Nat.le_of_ble_eq_true rfl, rfl⟩ ⟨Nat.le_of_ble_eq_true rfl, Nat.le_of_ble_eq_true rfl⟩ (c_readBy _) ?_)
    rintro _ _ ⟨⟨b3, rfl⟩, rfl⟩
    refine ev_ps 9 rfl (ev_ald rfl rfl (rz_in (by omega) (by decide)) ?_)
    refine ev_ic (cd := .eq) rfl (fun h2 => next _ _ _ _ _ hm) (fun h2 => ?_)
    refine ev_ps 4 rfl (ev_ast rfl rfl (rz_in (by omega) (by decide)) ?_)
    exact ev_w (w2 := rz_w v (rz_ua a 6 (upd f (Int32.ofNat (k - 1)).toNatClampNeg _)) g) rfl (ev_ps 2 rfl (next 1 _ _ _ _ (Or.inr rfl)))
theorem c_findFor_14 {n : Nat} (hv : v 0 = Int32.ofNat n) (hn : n ≤ 24) : rz_C xs xl 10 [.ref 14, .ref 1] (rz_w v a g) (fun q w' => q = .inl none ∧ ∃ f, w' = rz_w v (rz_ua a 6 f) g) := by
  refine ev_ps 3 rfl (ev_call (av := [_, _]) rfl rfl rfl rfl ⟨Nat.le_of_ble_eq_true rfl, rfl⟩ ⟨Nat.le_of_ble_eq_true rfl, Nat.le_of_ble_eq_true rfl⟩ (c_fill_14 _) ?_)
  rintro _ _ ⟨rfl, f0, rfl⟩
  refine ev_ps 3 rfl (ev_call (av := [_]) rfl rfl rfl rfl ⟨Nat.le_of_ble_eq_true rfl, rfl⟩ ⟨Nat.le_of_ble_eq_true rfl, Nat.le_of_ble_eq_true rfl⟩ (c_length) ?_)
  rintro _ _ ⟨rfl, rfl⟩
  refine ev_ps 1 rfl (ev_ast rfl rfl (by rw [hv]; exact rz_in (by omega) (by decide)) ?_)
  refine ev_w (w2 := rz_w v (rz_ua a 6 (upd f0 (v 0).toNatClampNeg _)) g) rfl ?_
  refine ev_ps 4 rfl ?_
  refine ev_loop (α := Nat × Int32 × (Nat → Int32)) (fun q => 73 - q.1) (fun q => q.1 ≤ 73) (fun q => [some (.ref 14), some (.ref 1), some (.int q.2.1), some (.int (Int32.ofNat q.1))]) (fun _ => []) (fun q => rz_w v (rz_ua a 6 q.2.2) g) ?_ (0, 1, _) (Nat.zero_le _)
  rintro ⟨k, m, f⟩ hk ih
  dsimp only at hk ih ⊢
  refine ev_ps 1 rfl (ev_if (cd := .eq) rfl (fun h => ?_) (fun h => ?_))
  · exact ev_ret rfl rfl ⟨rfl, f, rfl⟩
  · refine ev_ps 2 rfl (ev_ic (cd := .ge) rfl (fun h => ?_) (fun h => ?_))
    · exact ev_ret rfl rfl ⟨rfl, f, rfl⟩
    · have hk' : k < 73 := rn_ge_f (k := 73) (by omega) (by omega) h
      refine ev_ps 2 rfl (ev_call (av := [_, _]) rfl rfl rfl rfl ⟨Nat.le_of_ble_eq_true rfl, rfl⟩ ⟨Nat.le_of_ble_eq_true rfl, Nat.le_of_ble_eq_true rfl⟩ (c_findMore_14 (a := rz_ua a 6 f) hv hn) ?_)
      rintro _ _ ⟨⟨u, hu, rfl⟩, f2, rfl⟩
      have h9 := ih (k + 1, u, f2) (by show k + 1 ≤ 73; omega) (by show 73 - (k + 1) < 73 - k; omega)
      dsimp only at h9
      rw [← rz_succ k] at h9
      exact ev_w (w2 := rz_w v (rz_ua a 6 f2) g) rfl (ev_ps 3 rfl h9)
theorem c_agree_8 {n1 n2 : Nat} (x : Int32) (h1 : v 6 = Int32.ofNat n1) (hn1 : n1 ≤ 3) (h2 : v 7 = Int32.ofNat n2) (hn2 : n2 ≤ 3) : rz_C xs xl 35 [.ref 8, .ref 9, .ref 11, .int x] (rz_w v a g) (fun q w' => (∃ u, (u = 0 ∨ u = 1) ∧ q = .inl (some (.int u))) ∧ ∃ d, w' = rz_w (rz_up v 5 d) a g) := by
  refine ev_ps 2 rfl ?_
  refine ev_loop (α := Nat × Option Value × Option Value × Option Value) (fun q => 4096 - q.1) (fun q => q.1 ≤ 4096) (fun q => [some (.ref 8), some (.ref 9), some (.ref 11), some (.int x), some (.int (Int32.ofNat q.1)), q.2.1, q.2.2.1, q.2.2.2]) (fun _ => []) (fun _ => rz_w v a g) ?_ (0, none, none, none) (Nat.zero_le _)
  rintro ⟨k, t5, t6, t7⟩ hk ih
  dsimp only at hk ih ⊢
  refine ev_ps 2 rfl (ev_ic (cd := .ge) rfl (fun h => ?_) (fun h => ?_))
  · exact ev_ps 1 rfl (ev_ret rfl rfl ⟨⟨1, Or.inr rfl, rfl⟩, v 5, rfl⟩)
  · have hk' : k < 4096 := rn_ge_f (k := 4096) (by omega) (by omega) h
    refine ev_ps 15 rfl ?_
    refine ev_ps 0 rfl (ev_call (av := [_, _]) rfl rfl rfl rfl ⟨Nat.le_of_ble_eq_true rfl, rfl⟩ ⟨Nat.le_of_ble_eq_true rfl, Nat.le_of_ble_eq_true rfl⟩ (c_rowRegs_9 _ h1 hn1) ?_)
    rintro _ _ ⟨⟨u1, rfl⟩, rfl⟩
    refine ev_ps 2 rfl (ev_call (av := [_, _]) rfl rfl rfl rfl ⟨Nat.le_of_ble_eq_true rfl, rfl⟩ ⟨Nat.le_of_ble_eq_true rfl, Nat.le_of_ble_eq_true rfl⟩ (c_rowRegs_11 _ h2 hn2) ?_)
    rintro _ _ ⟨⟨u2, rfl⟩, rfl⟩
    refine ev_ps 5 rfl (ev_if (cd := .eq) rfl (fun h => ?_) (fun h => ?_))
    · have h9 := fun t5 t6 t7 => ih (k + 1, t5, t6, t7) (by show k + 1 ≤ 4096; omega) (by show 4096 - (k + 1) < 4096 - k; omega)
      dsimp only at h9
      rw [← rz_succ k] at h9
      exact ev_ps 2 rfl (h9 _ _ _)
    · exact ev_ps 4 rfl (ev_ret rfl rfl ⟨⟨0, Or.inl rfl, rfl⟩, _, rfl⟩)
theorem c_agree_16 {n1 n2 : Nat} (x : Int32) (h1 : v 11 = Int32.ofNat n1) (hn1 : n1 ≤ 3) (h2 : v 12 = Int32.ofNat n2) (hn2 : n2 ≤ 3) : rz_C xs xl 35 [.ref 16, .ref 21, .ref 23, .int x] (rz_w v a g) (fun q w' => (∃ u, (u = 0 ∨ u = 1) ∧ q = .inl (some (.int u))) ∧ ∃ d, w' = rz_w (rz_up v 8 d) a g) := by
  refine ev_ps 2 rfl ?_
  refine ev_loop (α := Nat × Option Value × Option Value × Option Value) (fun q => 4096 - q.1) (fun q => q.1 ≤ 4096) (fun q => [some (.ref 16), some (.ref 21), some (.ref 23), some (.int x), some (.int (Int32.ofNat q.1)), q.2.1, q.2.2.1, q.2.2.2]) (fun _ => []) (fun _ => rz_w v a g) ?_ (0, none, none, none) (Nat.zero_le _)
  rintro ⟨k, t5, t6, t7⟩ hk ih
  dsimp only at hk ih ⊢
  refine ev_ps 2 rfl (ev_ic (cd := .ge) rfl (fun h => ?_) (fun h => ?_))
  · exact ev_ps 1 rfl (ev_ret rfl rfl ⟨⟨1, Or.inr rfl, rfl⟩, v 8, rfl⟩)
  · have hk' : k < 4096 := rn_ge_f (k := 4096) (by omega) (by omega) h
    refine ev_ps 15 rfl ?_
    refine ev_ps 0 rfl (ev_call (av := [_, _]) rfl rfl rfl rfl ⟨Nat.le_of_ble_eq_true rfl, rfl⟩ ⟨Nat.le_of_ble_eq_true rfl, Nat.le_of_ble_eq_true rfl⟩ (c_rowRegs_21 _ h1 hn1) ?_)
    rintro _ _ ⟨⟨u1, rfl⟩, rfl⟩
    refine ev_ps 2 rfl (ev_call (av := [_, _]) rfl rfl rfl rfl ⟨Nat.le_of_ble_eq_true rfl, rfl⟩ ⟨Nat.le_of_ble_eq_true rfl, Nat.le_of_ble_eq_true rfl⟩ (c_rowRegs_23 _ h2 hn2) ?_)
    rintro _ _ ⟨⟨u2, rfl⟩, rfl⟩
    refine ev_ps 5 rfl (ev_if (cd := .eq) rfl (fun h => ?_) (fun h => ?_))
    · have h9 := fun t5 t6 t7 => ih (k + 1, t5, t6, t7) (by show k + 1 ≤ 4096; omega) (by show 4096 - (k + 1) < 4096 - k; omega)
      dsimp only at h9
      rw [← rz_succ k] at h9
      exact ev_ps 2 rfl (h9 _ _ _)
    · exact ev_ps 4 rfl (ev_ret rfl rfl ⟨⟨0, Or.inl rfl, rfl⟩, _, rfl⟩)
end RZP3
