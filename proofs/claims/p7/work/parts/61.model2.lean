/-! the reference: a row done, two rows held against each other -/
section RZM2
variable {xs : Nat → Int32} {xl : Nat} {v : Nat → Int32} {a : Nat → Nat → Int32} {g : Nat → Int64}
theorem m_does {k : Nat} (hk : k < 25) (hli : rz_li a k) : rz_C xs xl 82 [.ref 25, .int (Int32.ofNat k)] (rz_w v a g) (fun q w' => q = .inl none ∧ ∃ d j : Nat, d ≤ 3 ∧ j ≤ 15 ∧ w' = rz_w v (rz_ua a 27 (upd (a 27) d (Int32.ofNat j))) g) := by
  obtain ⟨o', d', s', t', ho, hd, hs, ht, b1, b2, b3, b4, b5⟩ := hli
  have e := rz_clamp (k := k) (by omega)
  rw [← e] at ho hd hs ht
  have hin : ¬ (Int32.ofNat k < 0 ∨ 25 ≤ (Int32.ofNat k).toNatClampNeg) := rz_in hk (by decide)
  have tail : ∀ b : Int32, rz_E xs xl 82 33 [some (.ref 25), some (.int (Int32.ofNat k)), some (.int (a 20 (Int32.ofNat k).toNatClampNeg)), none, none] [.int b] (rz_w v a g) 0 0 (fun q w' => q = .inl none ∧ ∃ d j : Nat, d ≤ 3 ∧ j ≤ 15 ∧ w' = rz_w v (rz_ua a 27 (upd (a 27) d (Int32.ofNat j))) g) := by
    intro b
    refine ev_ps 7 rfl (ev_ald rfl rfl hin ?_)
    refine ev_ald rfl rfl (by rw [hs]; exact rz_in (by omega) (by decide)) ?_
    refine ev_ps 1 rfl (ev_call (av := [_, _, _]) rfl rfl rfl rfl ⟨Nat.le_of_ble_eq_true rfl, rfl⟩ ⟨Nat.le_of_ble_eq_true rfl, Nat.le_of_ble_eq_true rfl⟩ (m_made _ _ _) ?_)
    rintro _ _ ⟨⟨j, hj, rfl⟩, rfl⟩
    have fin : ∀ j : Nat, j ≤ 15 → rz_E xs xl 82 77 [some (.ref 25), some (.int (Int32.ofNat k)), some (.int (a 20 (Int32.ofNat k).toNatClampNeg)), some (.int b), some (.int (Int32.ofNat j))] [.int (Int32.ofNat j), .int (a 21 (Int32.ofNat k).toNatClampNeg), .ref 33] (rz_w v a g) 0 0 (fun q w' => q = .inl none ∧ ∃ d j : Nat, d ≤ 3 ∧ j ≤ 15 ∧ w' = rz_w v (rz_ua a 27 (upd (a 27) d (Int32.ofNat j))) g) := by
      intro j hj
      rw [hd]
      refine ev_ast rfl rfl (rz_in (by omega) (by decide)) ?_
      exact ev_ret rfl rfl ⟨rfl, d', j, b2, hj, by rw [rz_clamp (by omega)]; rfl⟩
    refine ev_ps 6 rfl (ev_ald rfl rfl hin ?_)
    refine ev_ps 3 rfl (ev_ald rfl rfl hin ?_)
    refine ev_if (cd := .ne) rfl (fun h => ?_) (fun h => ?_)
    · exact ev_ps 1 rfl (fin j hj)
    · rw [hd]
      refine ev_ps 2 rfl (ev_ast rfl rfl (rz_in (by omega) (by decide)) ?_)
      exact ev_ret rfl rfl ⟨rfl, d', 0, b2, by omega, by rw [rz_clamp (by omega)]; rfl⟩
  refine ev_ps 3 rfl (ev_ald rfl rfl hin ?_)
  refine ev_ps 3 rfl (ev_ic (cd := .ge) rfl (fun h => ?_) (fun h => ?_))
  · refine ev_ps 3 rfl (ev_ald rfl rfl hin ?_)
    exact tail _
  · rw [ho] at h
    have h6 : o' < 6 := rn_ge_f (k := 6) (by omega) (by omega) h
    refine ev_ps 5 rfl (ev_ald rfl rfl hin ?_)
    refine ev_ald rfl rfl (by rw [ht]; exact rz_in (by have := b5 (by omega); omega) (by decide)) ?_
    exact ev_ps 1 rfl (tail _)
theorem m_begin (x : Int32) : rz_C xs xl 96 [.ref 25, .int x] (rz_w v a g) (fun q w' => q = .inl none ∧ ∃ f, w' = rz_w v (rz_ua a 27 f) g) := by
  refine ev_ps 4 rfl (ev_ast rfl rfl (by decide) ?_)
  refine ev_w (w2 := rz_w v (rz_ua a 27 (upd (a 27) _ _)) g) rfl ?_
  refine ev_ps 6 rfl (ev_ast rfl rfl (by decide) ?_)
  refine ev_w (w2 := rz_w v (rz_ua a 27 (upd (upd (a 27) _ _) _ _)) g) rfl ?_
  refine ev_ps 8 rfl (ev_ast rfl rfl (by decide) ?_)
  refine ev_w (w2 := rz_w v (rz_ua a 27 (upd (upd (upd (a 27) _ _) _ _) _ _)) g) rfl ?_
  refine ev_ps 6 rfl (ev_ast rfl rfl (by decide) ?_)
  exact ev_w (w2 := rz_w v (rz_ua a 27 (upd (upd (upd (upd (a 27) _ _) _ _) _ _) _ _)) g) rfl (ev_ret rfl rfl ⟨rfl, _, rfl⟩)
theorem m_agree {p n q m : Nat} (z : Int32) (hp : p + n ≤ 25) (hq : q + m ≤ 25) (h1 : ∀ k, p ≤ k → k < p + n → rz_li a k) (h2 : ∀ k, q ≤ k → k < q + m → rz_li a k) : rz_C xs xl 95 [.ref 25, .int (Int32.ofNat p), .int (Int32.ofNat n), .int (Int32.ofNat q), .int (Int32.ofNat m), .int z] (rz_w v a g) (fun q w' => (∃ u, (u = 0 ∨ u = 1) ∧ q = .inl (some (.int u))) ∧ ∃ f1 f2, w' = rz_w v (rz_ua (rz_ua a 27 f1) 28 f2) g) := by
  have D1 : ∀ (x6 : Int32), (∀ (t7 : Option Value) (f1 f2 : Nat → Int32), rz_E xs xl 95 40 [some (.ref 25), some (.int (Int32.ofNat p)), some (.int (Int32.ofNat n)), some (.int (Int32.ofNat q)), some (.int (Int32.ofNat m)), some (.int z), some (.int x6), t7] [] (rz_w v (rz_ua (rz_ua a 27 f1) 28 f2) g) 0 0 (fun q w' => (∃ u, (u = 0 ∨ u = 1) ∧ q = .inl (some (.int u))) ∧ ∃ f1 f2, w' = rz_w v (rz_ua (rz_ua a 27 f1) 28 f2) g)) → ∀ (f1 f2 : Nat → Int32), rz_E xs xl 95 20 [some (.ref 25), some (.int (Int32.ofNat p)), some (.int (Int32.ofNat n)), some (.int (Int32.ofNat q)), some (.int (Int32.ofNat m)), some (.int z), some (.int x6), some (.int (Int32.ofNat 0))] [] (rz_w v (rz_ua (rz_ua a 27 f1) 28 f2) g) 0 0 (fun q w' => (∃ u, (u = 0 ∨ u = 1) ∧ q = .inl (some (.int u))) ∧ ∃ f1 f2, w' = rz_w v (rz_ua (rz_ua a 27 f1) 28 f2) g) := by
    intro x6 hK f1 f2
    refine ev_loop (α := Nat × (Nat → Int32) × (Nat → Int32)) (fun r => n - r.1) (fun r => r.1 ≤ n) (fun r => [some (.ref 25), some (.int (Int32.ofNat p)), some (.int (Int32.ofNat n)), some (.int (Int32.ofNat q)), some (.int (Int32.ofNat m)), some (.int z), some (.int x6), some (.int (Int32.ofNat r.1))]) (fun _ => []) (fun r => rz_w v (rz_ua (rz_ua a 27 r.2.1) 28 r.2.2) g) ?_ (0, f1, f2) (Nat.zero_le _)
    rintro ⟨k, f1, f2⟩ hk ih
    dsimp only at hk ih ⊢
    refine ev_ps 2 rfl (ev_ic (cd := .ge) rfl (fun h => hK _ _ _) (fun h => ?_))
    have hk' : k < n := rn_ge_f (by omega) (by omega) h
    refine ev_ps 4 rfl ?_
    refine ev_call (av := [.ref 25, .int (Int32.ofNat (p + k))]) rfl (by rw [← rz_add]; rfl) rfl rfl ⟨Nat.le_of_ble_eq_true rfl, rfl⟩ ⟨Nat.le_of_ble_eq_true rfl, Nat.le_of_ble_eq_true rfl⟩ (m_does (by omega) (h1 (p + k) (by omega) (by omega))) ?_
    rintro _ _ ⟨rfl, d, j, hd, hj, rfl⟩
    have h9 := fun f => ih (k + 1, f, f2) (by show k + 1 ≤ n; omega) (by show n - (k + 1) < n - k; omega)
    dsimp only at h9
    rw [← rz_succ k] at h9
    exact ev_w (w2 := rz_w v (rz_ua (rz_ua a 27 (upd f1 _ _)) 28 f2) g) rfl (ev_ps 2 rfl (h9 _))
  have D2 : ∀ (x6 : Int32), (∀ (t7 : Option Value) (f1 f2 : Nat → Int32), rz_E xs xl 95 69 [some (.ref 25), some (.int (Int32.ofNat p)), some (.int (Int32.ofNat n)), some (.int (Int32.ofNat q)), some (.int (Int32.ofNat m)), some (.int z), some (.int x6), t7] [] (rz_w v (rz_ua (rz_ua a 27 f1) 28 f2) g) 0 0 (fun q w' => (∃ u, (u = 0 ∨ u = 1) ∧ q = .inl (some (.int u))) ∧ ∃ f1 f2, w' = rz_w v (rz_ua (rz_ua a 27 f1) 28 f2) g)) → ∀ (f1 f2 : Nat → Int32), rz_E xs xl 95 43 [some (.ref 25), some (.int (Int32.ofNat p)), some (.int (Int32.ofNat n)), some (.int (Int32.ofNat q)), some (.int (Int32.ofNat m)), some (.int z), some (.int x6), some (.int (Int32.ofNat 0))] [] (rz_w v (rz_ua (rz_ua a 27 f1) 28 f2) g) 0 0 (fun q w' => (∃ u, (u = 0 ∨ u = 1) ∧ q = .inl (some (.int u))) ∧ ∃ f1 f2, w' = rz_w v (rz_ua (rz_ua a 27 f1) 28 f2) g) := by
    intro x6 hK f1 f2
    refine ev_loop (α := Nat × (Nat → Int32) × (Nat → Int32)) (fun r => 4 - r.1) (fun r => r.1 ≤ 4) (fun r => [some (.ref 25), some (.int (Int32.ofNat p)), some (.int (Int32.ofNat n)), some (.int (Int32.ofNat q)), some (.int (Int32.ofNat m)), some (.int z), some (.int x6), some (.int (Int32.ofNat r.1))]) (fun _ => []) (fun r => rz_w v (rz_ua (rz_ua a 27 r.2.1) 28 r.2.2) g) ?_ (0, f1, f2) (Nat.zero_le _)
    rintro ⟨k, f1, f2⟩ hk ih
    dsimp only at hk ih ⊢
    refine ev_ps 2 rfl (ev_ic (cd := .ge) rfl (fun h => hK _ _ _) (fun h => ?_))
    have hk' : k < 4 := rn_ge_f (k := 4) (by omega) (by omega) h
    refine ev_ps 6 rfl (ev_ald rfl rfl (rz_in hk' (by decide)) ?_)
    refine ev_ast rfl rfl (rz_in hk' (by decide)) ?_
    have h9 := fun f => ih (k + 1, f1, f) (by show k + 1 ≤ 4; omega) (by show 4 - (k + 1) < 4 - k; omega)
    dsimp only at h9
    rw [← rz_succ k] at h9
    exact ev_w (w2 := rz_w v (rz_ua (rz_ua a 27 f1) 28 (upd f2 _ _)) g) rfl (ev_ps 2 rfl (h9 _))
  have D3 : ∀ (x6 : Int32), (∀ (t7 : Option Value) (f1 f2 : Nat → Int32), rz_E xs xl 95 99 [some (.ref 25), some (.int (Int32.ofNat p)), some (.int (Int32.ofNat n)), some (.int (Int32.ofNat q)), some (.int (Int32.ofNat m)), some (.int z), some (.int x6), t7] [] (rz_w v (rz_ua (rz_ua a 27 f1) 28 f2) g) 0 0 (fun q w' => (∃ u, (u = 0 ∨ u = 1) ∧ q = .inl (some (.int u))) ∧ ∃ f1 f2, w' = rz_w v (rz_ua (rz_ua a 27 f1) 28 f2) g)) → ∀ (f1 f2 : Nat → Int32), rz_E xs xl 95 78 [some (.ref 25), some (.int (Int32.ofNat p)), some (.int (Int32.ofNat n)), some (.int (Int32.ofNat q)), some (.int (Int32.ofNat m)), some (.int z), some (.int x6), some (.int (Int32.ofNat 0))] [] (rz_w v (rz_ua (rz_ua a 27 f1) 28 f2) g) 0 0 (fun q w' => (∃ u, (u = 0 ∨ u = 1) ∧ q = .inl (some (.int u))) ∧ ∃ f1 f2, w' = rz_w v (rz_ua (rz_ua a 27 f1) 28 f2) g) := by
    intro x6 hK f1 f2
    refine ev_loop (α := Nat × (Nat → Int32) × (Nat → Int32)) (fun r => m - r.1) (fun r => r.1 ≤ m) (fun r => [some (.ref 25), some (.int (Int32.ofNat p)), some (.int (Int32.ofNat n)), some (.int (Int32.ofNat q)), some (.int (Int32.ofNat m)), some (.int z), some (.int x6), some (.int (Int32.ofNat r.1))]) (fun _ => []) (fun r => rz_w v (rz_ua (rz_ua a 27 r.2.1) 28 r.2.2) g) ?_ (0, f1, f2) (Nat.zero_le _)
    rintro ⟨k, f1, f2⟩ hk ih
    dsimp only at hk ih ⊢
    refine ev_ps 2 rfl (ev_ic (cd := .ge) rfl (fun h => hK _ _ _) (fun h => ?_))
    have hk' : k < m := rn_ge_f (by omega) (by omega) h
    refine ev_ps 4 rfl ?_
    refine ev_call (av := [.ref 25, .int (Int32.ofNat (q + k))]) rfl (by rw [← rz_add]; rfl) rfl rfl ⟨Nat.le_of_ble_eq_true rfl, rfl⟩ ⟨Nat.le_of_ble_eq_true rfl, Nat.le_of_ble_eq_true rfl⟩ (m_does (by omega) (h2 (q + k) (by omega) (by omega))) ?_
    rintro _ _ ⟨rfl, d, j, hd, hj, rfl⟩
    have h9 := fun f => ih (k + 1, f, f2) (by show k + 1 ≤ m; omega) (by show m - (k + 1) < m - k; omega)
    dsimp only at h9
    rw [← rz_succ k] at h9
    exact ev_w (w2 := rz_w v (rz_ua (rz_ua a 27 (upd f1 _ _)) 28 f2) g) rfl (ev_ps 2 rfl (h9 _))
  have D4 : ∀ (x6 : Int32), (∀ (t7 : Option Value) (f1 f2 : Nat → Int32), rz_E xs xl 95 144 [some (.ref 25), some (.int (Int32.ofNat p)), some (.int (Int32.ofNat n)), some (.int (Int32.ofNat q)), some (.int (Int32.ofNat m)), some (.int z), some (.int x6), t7] [] (rz_w v (rz_ua (rz_ua a 27 f1) 28 f2) g) 0 0 (fun q w' => (∃ u, (u = 0 ∨ u = 1) ∧ q = .inl (some (.int u))) ∧ ∃ f1 f2, w' = rz_w v (rz_ua (rz_ua a 27 f1) 28 f2) g)) → ∀ (f1 f2 : Nat → Int32), rz_E xs xl 95 102 [some (.ref 25), some (.int (Int32.ofNat p)), some (.int (Int32.ofNat n)), some (.int (Int32.ofNat q)), some (.int (Int32.ofNat m)), some (.int z), some (.int x6), some (.int (Int32.ofNat 1))] [] (rz_w v (rz_ua (rz_ua a 27 f1) 28 f2) g) 0 0 (fun q w' => (∃ u, (u = 0 ∨ u = 1) ∧ q = .inl (some (.int u))) ∧ ∃ f1 f2, w' = rz_w v (rz_ua (rz_ua a 27 f1) 28 f2) g) := by
    intro x6 hK f1 f2
    refine ev_loop (α := Nat) (fun r => 4 - r) (fun r => r ≤ 4) (fun r => [some (.ref 25), some (.int (Int32.ofNat p)), some (.int (Int32.ofNat n)), some (.int (Int32.ofNat q)), some (.int (Int32.ofNat m)), some (.int z), some (.int x6), some (.int (Int32.ofNat r))]) (fun _ => []) (fun r => rz_w v (rz_ua (rz_ua a 27 f1) 28 f2) g) ?_ 1 (by omega)
    intro k hk ih
    have next : k < 4 → rz_E xs xl 95 138 [some (.ref 25), some (.int (Int32.ofNat p)), some (.int (Int32.ofNat n)), some (.int (Int32.ofNat q)), some (.int (Int32.ofNat m)), some (.int z), some (.int x6), some (.int (Int32.ofNat k))] [] (rz_w v (rz_ua (rz_ua a 27 f1) 28 f2) g) 0 0 (fun q w' => (∃ u, (u = 0 ∨ u = 1) ∧ q = .inl (some (.int u))) ∧ ∃ f1 f2, w' = rz_w v (rz_ua (rz_ua a 27 f1) 28 f2) g) := fun hk' => by
      have h9 := ih (k + 1) (by omega) (by omega)
      rw [← rz_succ k] at h9
      exact ev_ps 2 rfl h9
    refine ev_ps 2 rfl (ev_ic (cd := .ge) rfl (fun h => hK _ _ _) (fun h => ?_))
    have hk' : k < 4 := rn_ge_f (k := 4) (by omega) (by omega) h
    refine ev_ps 6 rfl (ev_ic (cd := .ne) rfl (fun h => next hk') (fun h => ?_))
    refine ev_ps 3 rfl (ev_ald rfl rfl (rz_in hk' (by decide)) ?_)
    refine ev_ps 3 rfl (ev_ald rfl rfl (rz_in hk' (by decide)) ?_)
    refine ev_ic (cd := .eq) rfl (fun h => next hk') (fun h => ?_)
    exact ev_ps 1 rfl (ev_ret rfl rfl ⟨⟨0, Or.inl rfl, rfl⟩, f1, f2, rfl⟩)
  refine ev_ps 2 rfl (ev_w (w2 := rz_w v (rz_ua (rz_ua a 27 (a 27)) 28 (a 28)) g) rfl ?_)
  refine ev_loop (α := Nat × Option Value × (Nat → Int32) × (Nat → Int32)) (fun r => 4096 - r.1) (fun r => r.1 ≤ 4096) (fun r => [some (.ref 25), some (.int (Int32.ofNat p)), some (.int (Int32.ofNat n)), some (.int (Int32.ofNat q)), some (.int (Int32.ofNat m)), some (.int z), some (.int (Int32.ofNat r.1)), r.2.1]) (fun _ => []) (fun r => rz_w v (rz_ua (rz_ua a 27 r.2.2.1) 28 r.2.2.2) g) ?_ (0, none, a 27, a 28) (Nat.zero_le _)
  rintro ⟨k, t7, f1, f2⟩ hk ih
  dsimp only at hk ih ⊢
  refine ev_ps 2 rfl (ev_ic (cd := .ge) rfl (fun h => ?_) (fun h => ?_))
  · exact ev_ps 1 rfl (ev_ret rfl rfl ⟨⟨1, Or.inr rfl, rfl⟩, f1, f2, rfl⟩)
  · have hk' : k < 4096 := rn_ge_f (k := 4096) (by omega) (by omega) h
    refine ev_ps 2 rfl (ev_call (av := [_, _]) rfl rfl rfl rfl ⟨Nat.le_of_ble_eq_true rfl, rfl⟩ ⟨Nat.le_of_ble_eq_true rfl, Nat.le_of_ble_eq_true rfl⟩ (m_begin _) ?_)
    rintro _ _ ⟨rfl, f, rfl⟩
    refine ev_w (w2 := rz_w v (rz_ua (rz_ua a 27 f) 28 f2) g) rfl (ev_ps 2 rfl (D1 _ (fun t7 f1 f2 => ?_) _ _))
    refine ev_ps 2 rfl (D2 _ (fun t7 f1 f2 => ?_) _ _)
    refine ev_ps 2 rfl (ev_call (av := [_, _]) rfl rfl rfl rfl ⟨Nat.le_of_ble_eq_true rfl, rfl⟩ ⟨Nat.le_of_ble_eq_true rfl, Nat.le_of_ble_eq_true rfl⟩ (m_begin _) ?_)
    rintro _ _ ⟨rfl, f, rfl⟩
    refine ev_w (w2 := rz_w v (rz_ua (rz_ua a 27 f) 28 f2) g) rfl (ev_ps 2 rfl (D3 _ (fun t7 f1 f2 => ?_) _ _))
    refine ev_ps 2 rfl (D4 _ (fun t7 f1 f2 => ?_) _ _)
    have h9 := ih (k + 1, t7, f1, f2) (by show k + 1 ≤ 4096; omega) (by show 4096 - (k + 1) < 4096 - k; omega)
    dsimp only at h9
    rw [← rz_succ k] at h9
    exact ev_ps 2 rfl h9
theorem m_isPlain {p n : Nat} (hp : p + n ≤ 25) : rz_C xs xl 94 [.ref 25, .int (Int32.ofNat p), .int (Int32.ofNat n)] (rz_w v a g) (rz_bo (rz_w v a g) True) := by
  refine ev_ps 4 rfl ?_
  refine ev_loop (α := Nat × Int32) (fun r => p + n - r.1) (fun r => r.1 ≤ p + n ∧ (r.2 = 0 ∨ r.2 = 1)) (fun r => [some (.ref 25), some (.int (Int32.ofNat p)), some (.int (Int32.ofNat n)), some (.int r.2), some (.int (Int32.ofNat r.1))]) (fun _ => []) (fun _ => rz_w v a g) ?_ (p, 1) ⟨by show p ≤ p + n; omega, Or.inr rfl⟩
  rintro ⟨k, b⟩ ⟨hk, hb⟩ ih
  dsimp only at hk hb ih ⊢
  have next : k < p + n → ∀ b : Int32, (b = 0 ∨ b = 1) → rz_E xs xl 94 34 [some (.ref 25), some (.int (Int32.ofNat p)), some (.int (Int32.ofNat n)), some (.int b), some (.int (Int32.ofNat k))] [.int b] (rz_w v a g) 0 0 (rz_bo (rz_w v a g) True) := fun hk' b hb => by
    have h9 := ih (k + 1, b) ⟨by show k + 1 ≤ p + n; omega, hb⟩ (by show p + n - (k + 1) < p + n - k; omega)
    dsimp only at h9
    rw [← rz_succ k] at h9
    exact ev_ps 3 rfl h9
  have next2 : k < p + n → ∀ b0 b : Int32, (b = 0 ∨ b = 1) → rz_E xs xl 94 34 [some (.ref 25), some (.int (Int32.ofNat p)), some (.int (Int32.ofNat n)), some (.int b0), some (.int (Int32.ofNat k))] [.int b] (rz_w v a g) 0 0 (rz_bo (rz_w v a g) True) := fun hk' b0 b hb => by
    have h9 := ih (k + 1, b) ⟨by show k + 1 ≤ p + n; omega, hb⟩ (by show p + n - (k + 1) < p + n - k; omega)
    dsimp only at h9
    rw [← rz_succ k] at h9
    exact ev_ps 3 rfl h9
  refine ev_ps 4 rfl (ev_ic (cd := .ge) rfl (fun h => ?_) (fun h => ?_))
  · exact ev_ps 1 rfl (ev_ret rfl (show (if b = 0 ∨ b = 1 then some (some (Value.int b)) else none) = _ from if_pos hb) ⟨⟨b, hb, fun _ => trivial, rfl⟩, rfl⟩)
  · rw [rz_add] at h
    have hk' : k < p + n := rn_ge_f (by omega) (by omega) h
    refine ev_ps 1 rfl (ev_if (cd := .eq) rfl (fun h => ?_) (fun h => ?_))
    · exact ev_ps 1 rfl (next2 hk' _ 0 (Or.inl rfl))
    · refine ev_ps 3 rfl (ev_ald rfl rfl (rz_in (by omega) (by decide)) ?_)
      refine ev_ps 1 rfl (ev_ic (cd := .gt) rfl (fun h => ?_) (fun h => ?_))
      · exact ev_ps 1 rfl (next2 hk' _ 0 (Or.inl rfl))
      · exact ev_ps 2 rfl (next2 hk' _ 1 (Or.inr rfl))
theorem m_isThere {n m : Nat} (x : Int32) (hn : n ≤ 3) (hm : m ≤ 24) (hv : v 21 = Int32.ofNat m) : rz_C xs xl 93 [.ref 25, .int x, .int (Int32.ofNat n)] (rz_w v a g) (rz_bo (rz_w v a g) (∃ p : Nat, x = Int32.ofNat p ∧ p + n ≤ m)) := by
  refine ev_ps 1 rfl (ev_if (cd := .lt) rfl (fun h => ?_) (fun h => ?_))
  · exact ev_ps 1 rfl (ev_ret rfl rfl rz_bo0)
  · refine ev_ps 9 rfl (ev_if (cd := .gt) rfl (fun h2 => ?_) (fun h2 => ?_))
    · exact ev_ps 1 rfl (ev_ret rfl rfl rz_bo0)
    · refine ev_ps 2 rfl (ev_ret rfl rfl (rz_bo1 ?_))
      obtain ⟨p, hp, rfl⟩ := rz_nat (rc_lt_f h)
      refine ⟨p, rfl, ?_⟩
      rw [hv] at h2
      have h3 := rc_gt_f h2
      have e1 : (Int32.ofNat p).toInt64.toInt = (p : Int) := by rw [Int32.toInt_toInt64, rz_toInt hp]
      have e2 : (Int32.ofNat n).toInt64.toInt = (n : Int) := by rw [Int32.toInt_toInt64, rz_toInt (by omega)]
      have e3 : (Int32.ofNat m).toInt64.toInt = (m : Int) := by rw [Int32.toInt_toInt64, rz_toInt (by omega)]
      have e4 : ((Int32.ofNat p).toInt64 + (Int32.ofNat n).toInt64).toInt = (p : Int) + (n : Int) := by
        rw [Int64.toInt_add, e1, e2]
        rw [Int.bmod_eq_of_le (by omega) (by omega)]
      have h4 : ¬ (Int32.ofNat m).toInt64 < (Int32.ofNat p).toInt64 + (Int32.ofNat n).toInt64 := fun q => h3 (by
        show 0 < lg_cmp ((Int32.ofNat p).toInt64 + (Int32.ofNat n).toInt64) (Int32.ofNat m).toInt64
        unfold lg_cmp
        rw [if_pos q]
        decide)
      rw [Int64.lt_iff_toInt_lt, e3, e4] at h4
      omega
theorem rz_mi_st {f1 f2 : Nat → Int32} (hmi : rz_mi v a) : rz_mi v (rz_ua (rz_ua a 27 f1) 28 f2) := hmi
theorem m_same (hmi : rz_mi v a) (x n y m z : Int32) : rz_C xs xl 92 [.ref 25, .int x, .int n, .int y, .int m, .int z] (rz_w v a g) (rz_mp v a g rz_pi) := by
  have no : ∀ c : Int32, c ≠ 0 → rz_E xs xl 92 82 [some (.ref 25), some (.int x), some (.int n), some (.int y), some (.int m), some (.int z)] [.int c, .ref 25] (rz_w v a g) 0 0 (rz_mp v a g rz_pi) := by
    intro c hc
    refine ev_ps 1 rfl (ev_w (w2 := rz_w (rz_up v 20 c) a g) rfl ?_)
    refine ev_ps 2 rfl (ev_if (cd := .ne) rfl (fun h => ?_) (fun h => absurd (rc_ne_f h) hc))
    exact ev_ps 1 rfl (ev_ret rfl rfl ⟨⟨_, rfl⟩, _, _, rfl, rz_mf.rf.up (by omega) _, hmi⟩)
  have no1 : rz_E xs xl 92 31 [some (.ref 25), some (.int x), some (.int n), some (.int y), some (.int m), some (.int z)] [.ref 25] (rz_w v a g) 0 0 (rz_mp v a g rz_pi) := ev_ps 2 rfl (no 1 (by decide))
  have no2 : rz_E xs xl 92 54 [some (.ref 25), some (.int x), some (.int n), some (.int y), some (.int m), some (.int z)] [.ref 25] (rz_w v a g) 0 0 (rz_mp v a g rz_pi) := ev_ps 2 rfl (no 2 (by decide))
  have no3 : rz_E xs xl 92 77 [some (.ref 25), some (.int x), some (.int n), some (.int y), some (.int m), some (.int z)] [.ref 25] (rz_w v a g) 0 0 (rz_mp v a g rz_pi) := ev_ps 2 rfl (no 3 (by decide))
  obtain ⟨k, hk, hv, hrows⟩ := hmi.1
  refine ev_ps 4 rfl (ev_call (av := [_, _, _]) rfl rfl rfl rfl ⟨Nat.le_of_ble_eq_true rfl, rfl⟩ ⟨Nat.le_of_ble_eq_true rfl, Nat.le_of_ble_eq_true rfl⟩ (m_in _ _ _) ?_)
  rintro _ _ ⟨⟨u1, h1, rfl⟩, rfl⟩
  refine ev_if (cd := .eq) rfl (fun e => no1) (fun e1 => ?_)
  obtain ⟨-, n0, n1⟩ := h1.resolve_right (fun q => rc_eq_f e1 q.1)
  refine ev_ps 3 rfl (ev_call (av := [_, _, _]) rfl rfl rfl rfl ⟨Nat.le_of_ble_eq_true rfl, rfl⟩ ⟨Nat.le_of_ble_eq_true rfl, Nat.le_of_ble_eq_true rfl⟩ (m_in _ _ _) ?_)
  rintro _ _ ⟨⟨u2, h2, rfl⟩, rfl⟩
  refine ev_if (cd := .eq) rfl (fun e => no1) (fun e2 => ?_)
  obtain ⟨-, m0, m1⟩ := h2.resolve_right (fun q => rc_eq_f e2 q.1)
  refine ev_ps 3 rfl (ev_call (av := [_, _, _]) rfl rfl rfl rfl ⟨Nat.le_of_ble_eq_true rfl, rfl⟩ ⟨Nat.le_of_ble_eq_true rfl, Nat.le_of_ble_eq_true rfl⟩ (m_in _ _ _) ?_)
  rintro _ _ ⟨⟨u3, h3, rfl⟩, rfl⟩
  refine ev_if (cd := .ne) rfl (fun e3 => ?_) (fun e => no1)
  obtain ⟨n', hn', rfl⟩ := rz_le_nat (b := 3) (by decide) n0 n1
  obtain ⟨m', hm', rfl⟩ := rz_le_nat (b := 3) (by decide) m0 m1
  refine ev_ps 3 rfl (ev_call (av := [_, _, _]) rfl rfl rfl rfl ⟨Nat.le_of_ble_eq_true rfl, rfl⟩ ⟨Nat.le_of_ble_eq_true rfl, Nat.le_of_ble_eq_true rfl⟩ (m_isThere _ hn' hk hv) ?_)
  rintro _ _ ⟨⟨u4, hu4, hP4, rfl⟩, rfl⟩
  refine ev_if (cd := .eq) rfl (fun e => no2) (fun e4 => ?_)
  obtain ⟨p, rfl, hpn⟩ := hP4 (hu4.resolve_left (rc_eq_f e4))
  refine ev_ps 3 rfl (ev_call (av := [_, _, _]) rfl rfl rfl rfl ⟨Nat.le_of_ble_eq_true rfl, rfl⟩ ⟨Nat.le_of_ble_eq_true rfl, Nat.le_of_ble_eq_true rfl⟩ (m_isThere _ hm' hk hv) ?_)
  rintro _ _ ⟨⟨u5, hu5, hP5, rfl⟩, rfl⟩
  refine ev_if (cd := .ne) rfl (fun e5 => ?_) (fun e => no2)
  obtain ⟨q, rfl, hqm⟩ := hP5 (hu5.resolve_left (rc_ne_t e5))
  refine ev_ps 3 rfl (ev_call (av := [_, _, _]) rfl rfl rfl rfl ⟨Nat.le_of_ble_eq_true rfl, rfl⟩ ⟨Nat.le_of_ble_eq_true rfl, Nat.le_of_ble_eq_true rfl⟩ (m_isPlain (by omega)) ?_)
  rintro _ _ ⟨⟨u6, hu6, -, rfl⟩, rfl⟩
  refine ev_if (cd := .eq) rfl (fun e => no3) (fun e6 => ?_)
  refine ev_ps 3 rfl (ev_call (av := [_, _, _]) rfl rfl rfl rfl ⟨Nat.le_of_ble_eq_true rfl, rfl⟩ ⟨Nat.le_of_ble_eq_true rfl, Nat.le_of_ble_eq_true rfl⟩ (m_isPlain (by omega)) ?_)
  rintro _ _ ⟨⟨u7, hu7, -, rfl⟩, rfl⟩
  refine ev_if (cd := .ne) rfl (fun e7 => ?_) (fun e => no3)
  refine ev_ps 2 rfl (ev_w (w2 := rz_w (rz_up v 20 0) a g) rfl ?_)
  refine ev_ps 2 rfl (ev_if (cd := .ne) rfl (fun h => absurd rfl (rc_ne_t h)) (fun h => ?_))
  refine ev_ps 6 rfl (ev_call (av := [_, _, _, _, _, _]) rfl rfl rfl rfl ⟨Nat.le_of_ble_eq_true rfl, rfl⟩ ⟨Nat.le_of_ble_eq_true rfl, Nat.le_of_ble_eq_true rfl⟩ (m_agree _ (by omega) (by omega) (fun j h1 h2 => hrows j (by omega)) (fun j h1 h2 => hrows j (by omega))) ?_)
  rintro _ _ ⟨⟨u8, hu8, rfl⟩, f1, f2, rfl⟩
  refine ev_if (cd := .eq) rfl (fun h => ?_) (fun h => ?_)
  · exact ev_ps 1 rfl (ev_ret rfl rfl ⟨⟨_, rfl⟩, _, _, rfl, ((rz_mf.rf.up (by omega) _).ua (by omega) _).ua (by omega) _, hmi⟩)
  · exact ev_ps 2 rfl (ev_ret rfl rfl ⟨⟨_, rfl⟩, _, _, rfl, ((rz_mf.rf.up (by omega) _).ua (by omega) _).ua (by omega) _, hmi⟩)
end RZM2
