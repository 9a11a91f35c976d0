/-! the machine (place 3), the provers' one caller -/
section RZP4
variable {xs : Nat → Int32} {xl : Nat} {v : Nat → Int32} {a : Nat → Nat → Int32} {g : Nat → Int64}
theorem rz_remIdx (c d : Int32) : ¬ ((c &&& 15) + (d &&& 31) - ((c &&& 15) + (d &&& 31)) / 8 * 8 < 0 ∨ 8 ≤ ((c &&& 15) + (d &&& 31) - ((c &&& 15) + (d &&& 31)) / 8 * 8).toNatClampNeg) := by
  obtain ⟨i, hi, e1⟩ := rz_mask c 15 (by decide)
  obtain ⟨j, hj, e2⟩ := rz_mask d 31 (by decide)
  have e1' : c &&& 15 = Int32.ofNat i := e1
  have e2' : d &&& 31 = Int32.ofNat j := e2
  rw [e1', e2', rz_add]
  have key : ∀ s, s < 47 → ¬ (Int32.ofNat s - Int32.ofNat s / 8 * 8 < 0 ∨ 8 ≤ (Int32.ofNat s - Int32.ofNat s / 8 * 8).toNatClampNeg) := by decide +kernel
  exact key (i + j) (by omega)
theorem rz_sub4 {x : Int32} (h1 : ¬ x < 4) (h2 : x < 12) : ∃ k, k < 8 ∧ x - 4 = Int32.ofNat k := by
  obtain ⟨k, hk, rfl⟩ := rz_idx (n := 12) (by decide) (fun h => h1 (Int32.lt_trans h (by decide))) h2
  have hk4 : 4 ≤ k := Nat.not_lt.mp fun q => h1 ((rz_lt_iff (k := 4) (by omega) (by omega)).mpr q)
  exact ⟨k - 4, by omega, rz_sub (n := 4) hk4⟩
theorem c_jumps (x : Int32) : rz_C xs xl 64 [.ref 3, .int x] (rz_w v a g) (fun q w' => (∃ u, (u = 0 ∨ u = 1) ∧ q = .inl (some (.int u))) ∧ w' = rz_w v a g) := by
  refine ev_ps 3 rfl (ev_call (av := [_]) rfl rfl rfl rfl ⟨Nat.le_of_ble_eq_true rfl, rfl⟩ ⟨Nat.le_of_ble_eq_true rfl, Nat.le_of_ble_eq_true rfl⟩ (c_d _) ?_)
  rintro _ _ ⟨rfl, rfl⟩
  refine ev_call (av := [_, _]) rfl rfl rfl rfl ⟨Nat.le_of_ble_eq_true rfl, rfl⟩ ⟨Nat.le_of_ble_eq_true rfl, Nat.le_of_ble_eq_true rfl⟩ (c_value _ _) ?_
  rintro _ _ ⟨rfl, rfl⟩
  refine ev_ps 4 rfl (ev_call (av := [_]) rfl rfl rfl rfl ⟨Nat.le_of_ble_eq_true rfl, rfl⟩ ⟨Nat.le_of_ble_eq_true rfl, Nat.le_of_ble_eq_true rfl⟩ (c_s _) ?_)
  rintro _ _ ⟨rfl, rfl⟩
  refine ev_call (av := [_, _]) rfl rfl rfl rfl ⟨Nat.le_of_ble_eq_true rfl, rfl⟩ ⟨Nat.le_of_ble_eq_true rfl, Nat.le_of_ble_eq_true rfl⟩ (c_value _ _) ?_
  rintro _ _ ⟨rfl, rfl⟩
  refine ev_ps 2 rfl (ev_call (av := [_]) rfl rfl rfl rfl ⟨Nat.le_of_ble_eq_true rfl, rfl⟩ ⟨Nat.le_of_ble_eq_true rfl, Nat.le_of_ble_eq_true rfl⟩ (c_operation _) ?_)
  rintro _ _ ⟨rfl, rfl⟩
  refine ev_tsw rfl (fun t ht => ?_)
  rcases rz_mem4 ht with rfl | rfl | rfl | rfl
  · exact ev_ps 1 rfl (ev_ret rfl rfl ⟨⟨_, by decide, rfl⟩, rfl⟩)
  · refine ev_ps 2 rfl (ev_ic (cd := .ne) rfl (fun h1 => ?_) (fun h1 => ?_))
    · exact ev_ps 1 rfl (ev_ret rfl rfl ⟨⟨_, by decide, rfl⟩, rfl⟩)
    · exact ev_ps 2 rfl (ev_ret rfl rfl ⟨⟨_, by decide, rfl⟩, rfl⟩)
  · refine ev_ps 2 rfl (ev_ic (cd := .eq) rfl (fun h2 => ?_) (fun h2 => ?_))
    · exact ev_ps 1 rfl (ev_ret rfl rfl ⟨⟨_, by decide, rfl⟩, rfl⟩)
    · exact ev_ps 2 rfl (ev_ret rfl rfl ⟨⟨_, by decide, rfl⟩, rfl⟩)
  · exact ev_ps 1 rfl (ev_ret rfl rfl ⟨⟨_, by decide, rfl⟩, rfl⟩)
theorem c_outcome (x : Int32) : rz_C xs xl 6 [.ref 3, .int x] (rz_w v a g) (fun q w' => (∃ u, q = .inl (some (.int u))) ∧ w' = rz_w v a g) := by
  have tail : rz_E xs xl 6 38 [some (.ref 3), some (.int x)] [] (rz_w v a g) 0 0 (fun q w' => (∃ u, q = .inl (some (.int u))) ∧ w' = rz_w v a g) := by
    refine ev_ps 1 rfl (ev_lsw rfl (fun t ht => ?_))
    rcases rz_mem3 ht with rfl | rfl | rfl
    · exact ev_ps 1 rfl (ev_ret rfl rfl ⟨⟨_, rfl⟩, rfl⟩)
    · refine ev_ps 2 rfl (ev_if (cd := .eq) rfl (fun h1 => ?_) (fun h1 => ?_))
      · exact ev_ps 1 rfl (ev_ret rfl rfl ⟨⟨_, rfl⟩, rfl⟩)
      · exact ev_ps 2 rfl (ev_ret rfl rfl ⟨⟨_, rfl⟩, rfl⟩)
    · exact ev_ps 2 rfl (ev_ret rfl rfl ⟨⟨_, rfl⟩, rfl⟩)
  have mid : rz_E xs xl 6 18 [some (.ref 3), some (.int x)] [] (rz_w v a g) 0 0 (fun q w' => (∃ u, q = .inl (some (.int u))) ∧ w' = rz_w v a g) := by
    refine ev_ps 2 rfl (ev_ic (cd := .lt) rfl (fun h1 => tail) (fun h1 => ?_))
    refine ev_ps 2 rfl (ev_ic (cd := .ge) rfl (fun h2 => tail) (fun h2 => ?_))
    obtain ⟨k, hk, e⟩ := rz_sub4 (rc_lt_f h1) (Int32.not_le.mp (rc_ge_f h2))
    refine ev_ps 5 rfl (ev_ald rfl rfl (by rw [show x - Int32.ofInt 4 = Int32.ofNat k from e]; exact rz_in hk (by decide)) ?_)
    exact ev_ret rfl rfl ⟨⟨_, rfl⟩, rfl⟩
  refine ev_ps 1 rfl (ev_if (cd := .lt) rfl (fun h1 => mid) (fun h1 => ?_))
  refine ev_ps 2 rfl (ev_ic (cd := .ge) rfl (fun h1 => mid) (fun h1 => ?_))
  refine ev_ps 3 rfl (ev_call (av := [_, _]) rfl rfl rfl rfl ⟨Nat.le_of_ble_eq_true rfl, rfl⟩ ⟨Nat.le_of_ble_eq_true rfl, Nat.le_of_ble_eq_true rfl⟩ (c_value _ _) ?_)
  rintro _ _ ⟨rfl, rfl⟩
  exact ev_ret rfl rfl ⟨⟨_, rfl⟩, rfl⟩
theorem c_setStart {k : Nat} (y : Int32) (hk : k < 12) : rz_C xs xl 60 [.ref 3, .int (Int32.ofNat k), .int y] (rz_w v a g) (fun q w' => q = .inl none ∧ ∃ r f, w' = rz_w (rz_up v 1 r) (rz_ua a 1 f) g) := by
  refine ev_ps 2 rfl (ev_ic (cd := .ge) rfl (fun h1 => ?_) (fun h1 => ?_))
  · have h4 : 4 ≤ k := rn_ge_t (k := 4) (by omega) (by omega) h1
    refine ev_ps 6 rfl (ev_ast rfl rfl (by rw [show Int32.ofNat k - Int32.ofInt 4 = Int32.ofNat (k - 4) from rz_sub (n := 4) h4]; exact rz_in (by omega) (by decide)) ?_)
    exact ev_ret rfl rfl ⟨rfl, v 1, _, rfl⟩
  · refine ev_ps 5 rfl (ev_call (av := [_, _, _]) rfl rfl rfl rfl ⟨Nat.le_of_ble_eq_true rfl, rfl⟩ ⟨Nat.le_of_ble_eq_true rfl, Nat.le_of_ble_eq_true rfl⟩ (c_with _ _ _) ?_)
    rintro _ _ ⟨⟨u, rfl⟩, rfl⟩
    exact ev_ps 2 rfl (ev_ret rfl rfl ⟨rfl, u, a 1, rfl⟩)
theorem c_step (x : Int32) : rz_C xs xl 63 [.ref 3, .int x] (rz_w v a g) (fun q w' => q = .inl none ∧ ∃ r p f, w' = rz_w (rz_up (rz_up v 2 r) 3 p) (rz_ua a 2 f) g) := by
  have main : ∀ y : Int32, rz_E xs xl 63 22 [some (.ref 3), some (.int x), none] [.int y, .ref 3] (rz_w v a g) 0 0 (fun q w' => q = .inl none ∧ ∃ r p f, w' = rz_w (rz_up (rz_up v 2 r) 3 p) (rz_ua a 2 f) g) := by
    intro y
    refine ev_ps 1 rfl (ev_w (w2 := rz_w (rz_up v 3 y) a g) rfl ?_)
    refine ev_ps 3 rfl (ev_call (av := [_]) rfl rfl rfl rfl ⟨Nat.le_of_ble_eq_true rfl, rfl⟩ ⟨Nat.le_of_ble_eq_true rfl, Nat.le_of_ble_eq_true rfl⟩ (c_s _) ?_)
    rintro _ _ ⟨rfl, rfl⟩
    refine ev_call (av := [_, _]) rfl rfl rfl rfl ⟨Nat.le_of_ble_eq_true rfl, rfl⟩ ⟨Nat.le_of_ble_eq_true rfl, Nat.le_of_ble_eq_true rfl⟩ (c_value _ _) ?_
    rintro _ _ ⟨rfl, rfl⟩
    refine ev_ps 1 rfl (ev_call (av := [_]) rfl rfl rfl rfl ⟨Nat.le_of_ble_eq_true rfl, rfl⟩ ⟨Nat.le_of_ble_eq_true rfl, Nat.le_of_ble_eq_true rfl⟩ (c_t _) ?_)
    rintro _ _ ⟨rfl, rfl⟩
    refine ev_ps 5 rfl (ev_call (av := [_]) rfl rfl rfl rfl ⟨Nat.le_of_ble_eq_true rfl, rfl⟩ ⟨Nat.le_of_ble_eq_true rfl, Nat.le_of_ble_eq_true rfl⟩ (c_operation _) ?_)
    rintro _ _ ⟨rfl, rfl⟩
    refine ev_ps 1 rfl (ev_ic (cd := .ne) rfl (fun h1 => ?_) (fun h1 => ?_))
    · refine ev_ps 1 rfl (ev_call (av := [_]) rfl rfl rfl rfl ⟨Nat.le_of_ble_eq_true rfl, rfl⟩ ⟨Nat.le_of_ble_eq_true rfl, Nat.le_of_ble_eq_true rfl⟩ (c_operation _) ?_)
      rintro _ _ ⟨rfl, rfl⟩
      refine ev_ps 1 rfl (ev_ic (cd := .ne) rfl (fun h1 => ?_) (fun h1 => ?_))
      · refine ev_ps 4 rfl (ev_call (av := [_, _]) rfl rfl rfl rfl ⟨Nat.le_of_ble_eq_true rfl, rfl⟩ ⟨Nat.le_of_ble_eq_true rfl, Nat.le_of_ble_eq_true rfl⟩ (c_regsAfter _ _) ?_)
        rintro _ _ ⟨⟨u, rfl⟩, rfl⟩
        exact ev_ps 1 rfl (ev_ret rfl rfl ⟨rfl, u, y, a 2, rfl⟩)
      · refine ev_ps 6 rfl (ev_call (av := [_]) rfl rfl rfl rfl ⟨Nat.le_of_ble_eq_true rfl, rfl⟩ ⟨Nat.le_of_ble_eq_true rfl, Nat.le_of_ble_eq_true rfl⟩ (c_d _) ?_)
        rintro _ _ ⟨rfl, rfl⟩
        refine ev_call (av := [_, _]) rfl rfl rfl rfl ⟨Nat.le_of_ble_eq_true rfl, rfl⟩ ⟨Nat.le_of_ble_eq_true rfl, Nat.le_of_ble_eq_true rfl⟩ (c_value _ _) ?_
        rintro _ _ ⟨rfl, rfl⟩
        refine ev_ast rfl rfl (rz_remIdx _ _) ?_
        exact ev_ps 1 rfl (ev_ret rfl rfl ⟨rfl, v 2, y, _, rfl⟩)
    · refine ev_ps 4 rfl (ev_call (av := [_]) rfl rfl rfl rfl ⟨Nat.le_of_ble_eq_true rfl, rfl⟩ ⟨Nat.le_of_ble_eq_true rfl, Nat.le_of_ble_eq_true rfl⟩ (c_d _) ?_)
      rintro _ _ ⟨rfl, rfl⟩
      refine ev_ps 3 rfl (ev_ald rfl rfl (rz_remIdx _ _) ?_)
      refine ev_call (av := [_, _, _]) rfl rfl rfl rfl ⟨Nat.le_of_ble_eq_true rfl, rfl⟩ ⟨Nat.le_of_ble_eq_true rfl, Nat.le_of_ble_eq_true rfl⟩ (c_with _ _ _) ?_
      rintro _ _ ⟨⟨u, rfl⟩, rfl⟩
      exact ev_ps 2 rfl (ev_ret rfl rfl ⟨rfl, u, y, a 2, rfl⟩)
  refine ev_ps 3 rfl (ev_call (av := [_, _]) rfl rfl rfl rfl ⟨Nat.le_of_ble_eq_true rfl, rfl⟩ ⟨Nat.le_of_ble_eq_true rfl, Nat.le_of_ble_eq_true rfl⟩ (c_jumps _) ?_)
  rintro _ _ ⟨⟨u, hu, rfl⟩, rfl⟩
  refine ev_if (cd := .eq) rfl (fun h1 => ?_) (fun h1 => ?_)
  · exact ev_ps 4 rfl (main _)
  · refine ev_ps 1 rfl (ev_call (av := [_]) rfl rfl rfl rfl ⟨Nat.le_of_ble_eq_true rfl, rfl⟩ ⟨Nat.le_of_ble_eq_true rfl, Nat.le_of_ble_eq_true rfl⟩ (c_t _) ?_)
    rintro _ _ ⟨rfl, rfl⟩
    exact ev_ps 1 rfl (main _)
theorem ev_cpy {M pc len x y z : Nat} {ins : Instr} {L : rz_L} {w : rz_W} {kc ks s d : Nat} {f h : Nat → Int32} {post : rz_R → rz_W → Prop} (hc : rz_code M pc = some (5, ins, len, x, y, z)) (h0 : w[s]? = some (.inl (0, 8, .inl f))) (h1 : w[d]? = some (.inl (0, 8, .inl h))) (hsd : s ≠ d)
    (k : rz_E xs xl M (pc + len) L [] (w.set d (.inl (0, 8, .inl (va_cpy f h 0 0 8)))) kc ks post) : rz_E xs xl M pc L [.int 8, .int 0, .ref d, .int 0, .ref s] w kc ks post := by
  obtain ⟨n, r, w1, e1, e2⟩ := k
  refine ⟨n + 1, r, w1, ?_, e2⟩
  rw [rz_run, hc]
  dsimp only
  rw [h0, h1]
  exact (if_pos ⟨rfl, rfl, hsd, rfl, rfl, rfl, rfl, rfl, rfl⟩).trans e1
theorem c_perform {n l : Nat} (hv : v 0 = Int32.ofNat n) (hn : n ≤ 24) (hl : l ≤ 500) : rz_C xs xl 62 [.ref 3, .ref 1, .int (Int32.ofNat l)] (rz_w v a g) (fun q w' => (∃ u, q = .inl (some (.int u))) ∧ ∃ r p e f, (e = 0 ∨ e = 1) ∧ w' = rz_w (rz_up (rz_up (rz_up v 2 r) 3 p) 4 e) (rz_ua a 2 f) g) := by
  have loop : ∀ (r p e : Int32) (f : Nat → Int32), (e = 0 ∨ e = 1) → (e = 0 → ¬ p < 0 ∧ p < v 0) → rz_E xs xl 62 50 [some (.ref 3), some (.ref 1), some (.int (Int32.ofNat l)), some (.int (Int32.ofNat 0)), none] [] (rz_w (rz_up (rz_up (rz_up v 2 r) 3 p) 4 e) (rz_ua a 2 f) g) 0 0 (fun q w' => (∃ u, q = .inl (some (.int u))) ∧ ∃ r p e f, (e = 0 ∨ e = 1) ∧ w' = rz_w (rz_up (rz_up (rz_up v 2 r) 3 p) 4 e) (rz_ua a 2 f) g) := by
    intro r p e f he hp
    refine ev_loop (α := Nat × Option Value × Int32 × Int32 × Int32 × (Nat → Int32)) (fun q => l - q.1) (fun q => q.1 ≤ l ∧ (q.2.2.2.2.1 = 0 ∨ q.2.2.2.2.1 = 1) ∧ (q.2.2.2.2.1 = 0 → ¬ q.2.2.2.1 < 0 ∧ q.2.2.2.1 < v 0)) (fun q => [some (.ref 3), some (.ref 1), some (.int (Int32.ofNat l)), some (.int (Int32.ofNat q.1)), q.2.1]) (fun _ => []) (fun q => rz_w (rz_up (rz_up (rz_up v 2 q.2.2.1) 3 q.2.2.2.1) 4 q.2.2.2.2.1) (rz_ua a 2 q.2.2.2.2.2) g) ?_ (0, none, r, p, e, f) ⟨Nat.zero_le _, he, hp⟩
    rintro ⟨k, t, r, p, e, f⟩ ⟨hk, he, hp⟩ ih
    dsimp only at hk he hp ih ⊢
    refine ev_ps 2 rfl (ev_ic (cd := .ge) rfl (fun h => ?_) (fun h => ?_))
    · exact ev_ps 1 rfl (ev_ret rfl rfl ⟨⟨_, rfl⟩, r, p, e, f, he, rfl⟩)
    · have hk' : k < l := rn_ge_f (by omega) (by omega) h
      refine ev_ps 2 rfl (ev_if (cd := .ne) rfl (fun h1 => ?_) (fun h1 => ?_))
      · exact ev_ps 1 rfl (ev_ret rfl rfl ⟨⟨_, rfl⟩, r, p, e, f, he, rfl⟩)
      · have he0 : e = 0 := rc_ne_f h1
        obtain ⟨hp0, hp1⟩ := hp he0
        rw [hv] at hp1
        obtain ⟨j, hj, rfl⟩ := rz_idx (by omega) hp0 hp1
        refine ev_ps 3 rfl (ev_call (av := [_, _]) rfl rfl rfl rfl ⟨Nat.le_of_ble_eq_true rfl, rfl⟩ ⟨Nat.le_of_ble_eq_true rfl, Nat.le_of_ble_eq_true rfl⟩ (c_codeAt (by omega)) ?_)
        rintro _ _ ⟨⟨c, rfl⟩, rfl⟩
        refine ev_ps 3 rfl (ev_call (av := [_, _]) rfl rfl rfl rfl ⟨Nat.le_of_ble_eq_true rfl, rfl⟩ ⟨Nat.le_of_ble_eq_true rfl, Nat.le_of_ble_eq_true rfl⟩ (c_step _) ?_)
        rintro _ _ ⟨rfl, r2, p2, f2, rfl⟩
        refine ev_w (w2 := rz_w (rz_up (rz_up (rz_up v 2 r2) 3 p2) 4 e) (rz_ua a 2 f2) g) rfl ?_
        have next : ∀ (e2 : Int32), (e2 = 0 ∨ e2 = 1) → (e2 = 0 → ¬ p2 < 0 ∧ p2 < v 0) → rz_E xs xl 62 105 [some (.ref 3), some (.ref 1), some (.int (Int32.ofNat l)), some (.int (Int32.ofNat k)), some (.int c)] [.int e2, .ref 3] (rz_w (rz_up (rz_up (rz_up v 2 r2) 3 p2) 4 e) (rz_ua a 2 f2) g) 0 0 (fun q w' => (∃ u, q = .inl (some (.int u))) ∧ ∃ r p e f, (e = 0 ∨ e = 1) ∧ w' = rz_w (rz_up (rz_up (rz_up v 2 r) 3 p) 4 e) (rz_ua a 2 f) g) := by
          intro e2 he2 hp2
          have h9 := ih (k + 1, some (.int c), r2, p2, e2, f2) ⟨by show k + 1 ≤ l; omega, he2, hp2⟩ (by show l - (k + 1) < l - k; omega)
          dsimp only at h9
          rw [← rz_succ k] at h9
          refine ev_put rfl rfl (Nat.le_of_ble_eq_true rfl) (by show decide (e2 = 0 ∨ e2 = 1) = true; exact decide_eq_true he2) ?_
          exact ev_w (w2 := rz_w (rz_up (rz_up (rz_up v 2 r2) 3 p2) 4 e2) (rz_ua a 2 f2) g) rfl (ev_ps 2 rfl h9)
        refine ev_ps 2 rfl (ev_call (av := [_]) rfl rfl rfl rfl ⟨Nat.le_of_ble_eq_true rfl, rfl⟩ ⟨Nat.le_of_ble_eq_true rfl, Nat.le_of_ble_eq_true rfl⟩ (c_operation _) ?_)
        rintro _ _ ⟨rfl, rfl⟩
        refine ev_ps 1 rfl (ev_ic (cd := .eq) rfl (fun h2 => ?_) (fun h2 => ?_))
        · exact ev_ps 2 rfl (next 1 (Or.inr rfl) (fun h => absurd h (by decide)))
        · refine ev_ps 3 rfl (ev_call (av := [_, _]) rfl rfl rfl rfl ⟨Nat.le_of_ble_eq_true rfl, rfl⟩ ⟨Nat.le_of_ble_eq_true rfl, Nat.le_of_ble_eq_true rfl⟩ (c_has _) ?_)
          rintro _ _ ⟨⟨u, hu, hP, rfl⟩, rfl⟩
          refine ev_if (cd := .ne) rfl (fun h3 => ?_) (fun h3 => ?_)
          · exact ev_ps 1 rfl (next 0 (Or.inl rfl) (fun _ => hP (hu.resolve_left (rc_ne_t h3))))
          · exact ev_ps 2 rfl (next 1 (Or.inr rfl) (fun h => absurd h (by decide)))
  refine ev_ps 4 rfl (ev_w (w2 := rz_w (rz_up v 2 (v 1)) a g) rfl ?_)
  refine ev_ps 7 rfl (ev_cpy rfl rfl rfl (by decide) ?_)
  refine ev_w (w2 := rz_w (rz_up v 2 (v 1)) (rz_ua a 2 (va_cpy (a 1) (a 2) 0 0 8)) g) rfl ?_
  refine ev_ps 3 rfl (ev_w (w2 := rz_w (rz_up (rz_up (rz_up v 2 (v 1)) 3 0) 4 (v 4)) (rz_ua a 2 (va_cpy (a 1) (a 2) 0 0 8)) g) rfl ?_)
  have fin : ∀ e2 : Int32, (e2 = 0 ∨ e2 = 1) → (e2 = 0 → ¬ (0 : Int32) < 0 ∧ (0 : Int32) < v 0) → rz_E xs xl 62 45 [some (.ref 3), some (.ref 1), some (.int (Int32.ofNat l)), none, none] [.int e2, .ref 3] (rz_w (rz_up (rz_up (rz_up v 2 (v 1)) 3 0) 4 (v 4)) (rz_ua a 2 (va_cpy (a 1) (a 2) 0 0 8)) g) 0 0 (fun q w' => (∃ u, q = .inl (some (.int u))) ∧ ∃ r p e f, (e = 0 ∨ e = 1) ∧ w' = rz_w (rz_up (rz_up (rz_up v 2 r) 3 p) 4 e) (rz_ua a 2 f) g) := by
    intro e2 he2 hp2
    refine ev_put rfl rfl (Nat.le_of_ble_eq_true rfl) (by show decide (e2 = 0 ∨ e2 = 1) = true; exact decide_eq_true he2) ?_
    exact ev_w (w2 := rz_w (rz_up (rz_up (rz_up v 2 (v 1)) 3 0) 4 e2) (rz_ua a 2 (va_cpy (a 1) (a 2) 0 0 8)) g) rfl (ev_ps 2 rfl (loop _ 0 e2 _ he2 hp2))
  refine ev_ps 4 rfl (ev_call (av := [_, _]) rfl rfl rfl rfl ⟨Nat.le_of_ble_eq_true rfl, rfl⟩ ⟨Nat.le_of_ble_eq_true rfl, Nat.le_of_ble_eq_true rfl⟩ (c_has _) ?_)
  rintro _ _ ⟨⟨u, hu, hP, rfl⟩, rfl⟩
  refine ev_if (cd := .ne) rfl (fun h3 => ?_) (fun h3 => ?_)
  · exact ev_ps 1 rfl (fin 0 (Or.inl rfl) (fun _ => hP (hu.resolve_left (rc_ne_t h3))))
  · exact ev_ps 2 rfl (fin 1 (Or.inr rfl) (fun h => absurd h (by decide)))
/-- n is a row's length, and the row lies in the array, or is empty -/
def rz_okr (x n : Int32) : Prop := ∃ k : Nat, k ≤ 3 ∧ n = Int32.ofNat k ∧ (k = 0 ∨ ∃ p : Nat, x = Int32.ofNat p ∧ p + k ≤ 24)
theorem c_takeFromX_9 {x n : Int32} (h : rz_okr x n) : rz_C xs xl 30 [.ref 9, .ref 1, .int x, .int n] (rz_w v a g) (fun q w' => q = .inl none ∧ ∃ k f, k ≤ 3 ∧ w' = rz_w (rz_up v 6 (Int32.ofNat k)) (rz_ua a 4 f) g) := by
  obtain ⟨k, hk, rfl, h⟩ := h
  rcases h with rfl | ⟨p, rfl, hp⟩
  · exact ev_mono (fun q w' ⟨h1, f, h2⟩ => ⟨h1, 0, f, by omega, h2⟩) (c_takeFrom0_9 x)
  · exact ev_mono (fun q w' ⟨h1, f, h2⟩ => ⟨h1, k, f, hk, h2⟩) (c_takeFrom_9 hk hp)
theorem c_takeFromX_11 {x n : Int32} (h : rz_okr x n) : rz_C xs xl 30 [.ref 11, .ref 1, .int x, .int n] (rz_w v a g) (fun q w' => q = .inl none ∧ ∃ k f, k ≤ 3 ∧ w' = rz_w (rz_up v 7 (Int32.ofNat k)) (rz_ua a 5 f) g) := by
  obtain ⟨k, hk, rfl, h⟩ := h
  rcases h with rfl | ⟨p, rfl, hp⟩
  · exact ev_mono (fun q w' ⟨h1, f, h2⟩ => ⟨h1, 0, f, by omega, h2⟩) (c_takeFrom0_11 x)
  · exact ev_mono (fun q w' ⟨h1, f, h2⟩ => ⟨h1, k, f, hk, h2⟩) (c_takeFrom_11 hk hp)
theorem c_agreeInProgram {x n y m : Int32} (z : Int32) (h1 : rz_okr x n) (h2 : rz_okr y m) : rz_C xs xl 69 [.ref 8, .ref 1, .int x, .int n, .int y, .int m, .int z] (rz_w v a g) (fun q w' => (∃ u, (u = 0 ∨ u = 1) ∧ q = .inl (some (.int u))) ∧ ∃ k1 k2 d f1 f2, k1 ≤ 3 ∧ k2 ≤ 3 ∧ w' = rz_w (rz_up (rz_up (rz_up v 6 (Int32.ofNat k1)) 7 (Int32.ofNat k2)) 5 d) (rz_ua (rz_ua a 4 f1) 5 f2) g) := by
  refine ev_ps 5 rfl (ev_call (av := [_, _, _, _]) rfl rfl rfl rfl ⟨Nat.le_of_ble_eq_true rfl, rfl⟩ ⟨Nat.le_of_ble_eq_true rfl, Nat.le_of_ble_eq_true rfl⟩ (c_takeFromX_9 h1) ?_)
  rintro _ _ ⟨rfl, k1, f1, hk1, rfl⟩
  refine ev_ps 5 rfl (ev_call (av := [_, _, _, _]) rfl rfl rfl rfl ⟨Nat.le_of_ble_eq_true rfl, rfl⟩ ⟨Nat.le_of_ble_eq_true rfl, Nat.le_of_ble_eq_true rfl⟩ (c_takeFromX_11 h2) ?_)
  rintro _ _ ⟨rfl, k2, f2, hk2, rfl⟩
  refine ev_ps 6 rfl (ev_call (av := [_]) rfl rfl rfl rfl ⟨Nat.le_of_ble_eq_true rfl, rfl⟩ ⟨Nat.le_of_ble_eq_true rfl, Nat.le_of_ble_eq_true rfl⟩ (c_maskOf _) ?_)
  rintro _ _ ⟨⟨u, rfl⟩, rfl⟩
  refine ev_call (av := [_, _, _, _]) rfl rfl rfl rfl ⟨Nat.le_of_ble_eq_true rfl, rfl⟩ ⟨Nat.le_of_ble_eq_true rfl, Nat.le_of_ble_eq_true rfl⟩ (c_agree_8 _ (n1 := k1) (n2 := k2) rfl hk1 rfl hk2) ?_
  rintro _ _ ⟨⟨u, hu, rfl⟩, d, rfl⟩
  exact ev_ret rfl (show (if u = 0 ∨ u = 1 then some (some (Value.int u)) else none) = _ from if_pos hu) ⟨⟨u, hu, rfl⟩, k1, k2, d, f1, f2, hk1, hk2, rfl⟩
end RZP4
/-! the improver (place 13) -/
section RZP5
variable {xs : Nat → Int32} {xl : Nat} {v : Nat → Int32} {a : Nat → Nat → Int32} {g : Nat → Int64}
theorem c_counted (x : Int32) : rz_C xs xl 49 [.ref 13, .int x] (rz_w v a g) (fun q w' => (∃ u, q = .inl (some (.int u))) ∧ w' = rz_w v a g) := by
  refine ev_ps 1 rfl (ev_tsw rfl (fun t ht => ?_))
  rcases rz_mem4 ht with rfl | rfl | rfl | rfl
  · exact ev_ps 1 rfl (ev_ret rfl rfl ⟨⟨_, rfl⟩, rfl⟩)
  · exact ev_ps 2 rfl (ev_ret rfl rfl ⟨⟨_, rfl⟩, rfl⟩)
  · exact ev_ps 2 rfl (ev_ret rfl rfl ⟨⟨_, rfl⟩, rfl⟩)
  · exact ev_ps 2 rfl (ev_ret rfl rfl ⟨⟨_, rfl⟩, rfl⟩)
theorem c_nothingDoes {n : Nat} (x : Int32) (hv : v 11 = Int32.ofNat n) (hn : n ≤ 3) : rz_C xs xl 33 [.ref 13, .int x] (rz_w v a g) (fun q w' => (∃ u, (u = 0 ∨ u = 1) ∧ q = .inl (some (.int u))) ∧ ∃ d y c f, w' = rz_w (rz_up (rz_up (rz_up v 12 c) 15 y) 8 d) (rz_ua a 10 f) g) := by
  refine ev_ps 2 rfl (ev_call (av := [_]) rfl rfl rfl rfl ⟨Nat.le_of_ble_eq_true rfl, rfl⟩ ⟨Nat.le_of_ble_eq_true rfl, Nat.le_of_ble_eq_true rfl⟩ (c_takeNothing_23) ?_)
  rintro _ _ ⟨rfl, rfl⟩
  refine ev_ps 6 rfl (ev_w (w2 := rz_w (rz_up (rz_up v 12 0) 15 (v 15 + Int32.ofInt 1)) a g) rfl ?_)
  refine ev_ps 7 rfl (ev_call (av := [_, _, _, _]) rfl rfl rfl rfl ⟨Nat.le_of_ble_eq_true rfl, rfl⟩ ⟨Nat.le_of_ble_eq_true rfl, Nat.le_of_ble_eq_true rfl⟩ (c_agree_16 _ (n1 := n) (n2 := 0) hv hn rfl (by omega)) ?_)
  rintro _ _ ⟨⟨u, hu, rfl⟩, d, rfl⟩
  exact ev_ret rfl (show (if u = 0 ∨ u = 1 then some (some (Value.int u)) else none) = _ from if_pos hu) ⟨⟨u, hu, rfl⟩, d, _, 0, a 10, rfl⟩
theorem c_firstInstruction {n : Nat} (x : Int32) (hv : v 11 = Int32.ofNat n) (hn : n ≤ 3) : rz_C xs xl 39 [.ref 13, .int x] (rz_w v a g) (fun q w' => (∃ u, q = .inl (some (.int u))) ∧ ∃ d y c f, w' = rz_w (rz_up (rz_up (rz_up v 12 c) 15 y) 8 d) (rz_ua a 10 f) g) := by
  refine ev_ps 3 rfl (ev_call (av := [_]) rfl rfl rfl rfl ⟨Nat.le_of_ble_eq_true rfl, rfl⟩ ⟨Nat.le_of_ble_eq_true rfl, Nat.le_of_ble_eq_true rfl⟩ (c_numbers hv hn) ?_)
  rintro _ _ ⟨⟨N0, rfl⟩, rfl⟩
  refine ev_ps 4 rfl ?_
  suffices H : ∀ N : Int32, rz_E xs xl 39 13 [some (.ref 13), some (.int x), some (.int N), some (.int (Int32.ofNat 0)), none, none, none, none, none] [] (rz_w v a g) 0 0 (fun q w' => (∃ u, q = .inl (some (.int u))) ∧ ∃ d y c f, w' = rz_w (rz_up (rz_up (rz_up v 12 c) 15 y) 8 d) (rz_ua a 10 f) g) from H _
  intro N
  have Lt : ∀ (o ch i j : Int32), (∀ (t7 t8 : Option Value) (d y c : Int32) (f : Nat → Int32), rz_E xs xl 39 130 [some (.ref 13), some (.int x), some (.int N), some (.int o), some (.int ch), some (.int i), some (.int j), t7, t8] [] (rz_w (rz_up (rz_up (rz_up v 12 c) 15 y) 8 d) (rz_ua a 10 f) g) 0 0 (fun q w' => (∃ u, q = .inl (some (.int u))) ∧ ∃ d y c f, w' = rz_w (rz_up (rz_up (rz_up v 12 c) 15 y) 8 d) (rz_ua a 10 f) g)) → ∀ (t8 : Option Value) (d y c : Int32) (f : Nat → Int32), rz_E xs xl 39 53 [some (.ref 13), some (.int x), some (.int N), some (.int o), some (.int ch), some (.int i), some (.int j), some (.int (Int32.ofNat 0)), t8] [] (rz_w (rz_up (rz_up (rz_up v 12 c) 15 y) 8 d) (rz_ua a 10 f) g) 0 0 (fun q w' => (∃ u, q = .inl (some (.int u))) ∧ ∃ d y c f, w' = rz_w (rz_up (rz_up (rz_up v 12 c) 15 y) 8 d) (rz_ua a 10 f) g) := by
    intro o ch i j hK t8 d y c f
    refine ev_loop (α := Nat × Option Value × Int32 × Int32 × Int32 × (Nat → Int32)) (fun q => 16 - q.1) (fun q => q.1 ≤ 16) (fun q => [some (.ref 13), some (.int x), some (.int N), some (.int o), some (.int ch), some (.int i), some (.int j), some (.int (Int32.ofNat q.1)), q.2.1]) (fun _ => []) (fun q => rz_w (rz_up (rz_up (rz_up v 12 q.2.2.2.2.1) 15 q.2.2.2.1) 8 q.2.2.1) (rz_ua a 10 q.2.2.2.2.2) g) ?_ (0, t8, d, y, c, f) (Nat.zero_le _)
    rintro ⟨k, t8, d, y, c, f⟩ hk ih
    dsimp only at hk ih ⊢
    have next : k < 16 → ∀ (t8 : Option Value) (d y c : Int32) (f : Nat → Int32), rz_E xs xl 39 124 [some (.ref 13), some (.int x), some (.int N), some (.int o), some (.int ch), some (.int i), some (.int j), some (.int (Int32.ofNat k)), t8] [] (rz_w (rz_up (rz_up (rz_up v 12 c) 15 y) 8 d) (rz_ua a 10 f) g) 0 0 (fun q w' => (∃ u, q = .inl (some (.int u))) ∧ ∃ d y c f, w' = rz_w (rz_up (rz_up (rz_up v 12 c) 15 y) 8 d) (rz_ua a 10 f) g) := fun hk' t8 d y c f => by
      have h9 := ih (k + 1, t8, d, y, c, f) (by show k + 1 ≤ 16; omega) (by show 16 - (k + 1) < 16 - k; omega)
      dsimp only at h9
      rw [← rz_succ k] at h9
      exact ev_ps 2 rfl h9
    refine ev_ps 2 rfl (ev_ic (cd := .gt) rfl (fun h => hK _ _ _ _ _ _) (fun h => ?_))
    have hk' : k < 16 := by
      have : k ≤ 15 := rn_gt_f (k := 15) (by omega) (by omega) h
      omega
    refine ev_ps 6 rfl (ev_ic (cd := .ne) rfl (fun h => next hk' _ _ _ _ _) (fun h => ?_))
    refine ev_ps 4 rfl (ev_call (av := [_, _, _, _]) rfl rfl rfl rfl ⟨Nat.le_of_ble_eq_true rfl, rfl⟩ ⟨Nat.le_of_ble_eq_true rfl, Nat.le_of_ble_eq_true rfl⟩ (c_pack _ _ _ _) ?_)
    rintro _ _ ⟨rfl, rfl⟩
    refine ev_ps 4 rfl (ev_call (av := [_, _]) rfl rfl rfl rfl ⟨Nat.le_of_ble_eq_true rfl, rfl⟩ ⟨Nat.le_of_ble_eq_true rfl, Nat.le_of_ble_eq_true rfl⟩ (c_takeOne_23 _) ?_)
    rintro _ _ ⟨rfl, f2, rfl⟩
    refine ev_ps 6 rfl (ev_w (w2 := rz_w (rz_up (rz_up (rz_up v 12 1) 15 (y + Int32.ofInt 1)) 8 d) (rz_ua a 10 f2) g) rfl ?_)
    refine ev_ps 7 rfl (ev_call (av := [_, _, _, _]) rfl rfl rfl rfl ⟨Nat.le_of_ble_eq_true rfl, rfl⟩ ⟨Nat.le_of_ble_eq_true rfl, Nat.le_of_ble_eq_true rfl⟩ (c_agree_16 _ (n1 := n) (n2 := 1) hv hn rfl (by omega)) ?_)
    rintro _ _ ⟨⟨u, hu, rfl⟩, d2, rfl⟩
    refine ev_w (w2 := rz_w (rz_up (rz_up (rz_up v 12 1) 15 (y + Int32.ofInt 1)) 8 d2) (rz_ua a 10 f2) g) rfl ?_
    refine ev_if (cd := .eq) rfl (fun h => next hk' _ _ _ _ _) (fun h => ?_)
    exact ev_ps 1 rfl (ev_ret rfl rfl ⟨⟨_, rfl⟩, d2, _, 1, f2, rfl⟩)
  have Ls : ∀ (o ch i : Int32), (∀ (t6 t7 t8 : Option Value) (d y c : Int32) (f : Nat → Int32), rz_E xs xl 39 136 [some (.ref 13), some (.int x), some (.int N), some (.int o), some (.int ch), some (.int i), t6, t7, t8] [] (rz_w (rz_up (rz_up (rz_up v 12 c) 15 y) 8 d) (rz_ua a 10 f) g) 0 0 (fun q w' => (∃ u, q = .inl (some (.int u))) ∧ ∃ d y c f, w' = rz_w (rz_up (rz_up (rz_up v 12 c) 15 y) 8 d) (rz_ua a 10 f) g)) → ∀ (t7 t8 : Option Value) (d y c : Int32) (f : Nat → Int32), rz_E xs xl 39 44 [some (.ref 13), some (.int x), some (.int N), some (.int o), some (.int ch), some (.int i), some (.int (Int32.ofNat 0)), t7, t8] [] (rz_w (rz_up (rz_up (rz_up v 12 c) 15 y) 8 d) (rz_ua a 10 f) g) 0 0 (fun q w' => (∃ u, q = .inl (some (.int u))) ∧ ∃ d y c f, w' = rz_w (rz_up (rz_up (rz_up v 12 c) 15 y) 8 d) (rz_ua a 10 f) g) := by
    intro o ch i hK t7 t8 d y c f
    refine ev_loop (α := Nat × Option Value × Option Value ×  Int32 × Int32 × Int32 × (Nat → Int32)) (fun q => 4 - q.1) (fun q => q.1 ≤ 4) (fun q => [some (.ref 13), some (.int x), some (.int N), some (.int o), some (.int ch), some (.int i), some (.int (Int32.ofNat q.1)), q.2.1, q.2.2.1]) (fun _ => []) (fun q => rz_w (rz_up (rz_up (rz_up v 12 q.2.2.2.2.2.1) 15 q.2.2.2.2.1) 8 q.2.2.2.1) (rz_ua a 10 q.2.2.2.2.2.2) g) ?_ (0, t7, t8, d, y, c, f) (by show 0 ≤ 4; omega)
    rintro ⟨k, t7, t8, d, y, c, f⟩ hk ih
    dsimp only at hk ih ⊢
    have next : k < 4 → ∀ (t7 t8 : Option Value) (d y c : Int32) (f : Nat → Int32), rz_E xs xl 39 130 [some (.ref 13), some (.int x), some (.int N), some (.int o), some (.int ch), some (.int i), some (.int (Int32.ofNat k)), t7, t8] [] (rz_w (rz_up (rz_up (rz_up v 12 c) 15 y) 8 d) (rz_ua a 10 f) g) 0 0 (fun q w' => (∃ u, q = .inl (some (.int u))) ∧ ∃ d y c f, w' = rz_w (rz_up (rz_up (rz_up v 12 c) 15 y) 8 d) (rz_ua a 10 f) g) := fun hk' t7 t8 d y c f => by
      have h9 := ih (k + 1, t7, t8, d, y, c, f) (by show k + 1 ≤ 4; omega) (by show 4 - (k + 1) < 4 - k; omega)
      dsimp only at h9
      rw [← rz_succ k] at h9
      exact ev_ps 2 rfl h9
    refine ev_ps 2 rfl (ev_ic (cd := .ge) rfl (fun h => hK _ _ _ _ _ _ _) (fun h => ?_))
    have hk' : k < 4 := rn_ge_f (k := 4) (by omega) (by omega) h
    exact ev_ps 2 rfl (Lt o ch i (Int32.ofNat k) (fun t7 t8 d y c f => next hk' _ _ _ _ _ _) _ _ _ _ _)
  have Ld : ∀ (o ch : Int32), (∀ (t5 t6 t7 t8 : Option Value) (d y c : Int32) (f : Nat → Int32), rz_E xs xl 39 142 [some (.ref 13), some (.int x), some (.int N), some (.int o), some (.int ch), t5, t6, t7, t8] [] (rz_w (rz_up (rz_up (rz_up v 12 c) 15 y) 8 d) (rz_ua a 10 f) g) 0 0 (fun q w' => (∃ u, q = .inl (some (.int u))) ∧ ∃ d y c f, w' = rz_w (rz_up (rz_up (rz_up v 12 c) 15 y) 8 d) (rz_ua a 10 f) g)) → ∀ (t6 t7 t8 : Option Value) (d y c : Int32) (f : Nat → Int32), rz_E xs xl 39 35 [some (.ref 13), some (.int x), some (.int N), some (.int o), some (.int ch), some (.int (Int32.ofNat 1)), t6, t7, t8] [] (rz_w (rz_up (rz_up (rz_up v 12 c) 15 y) 8 d) (rz_ua a 10 f) g) 0 0 (fun q w' => (∃ u, q = .inl (some (.int u))) ∧ ∃ d y c f, w' = rz_w (rz_up (rz_up (rz_up v 12 c) 15 y) 8 d) (rz_ua a 10 f) g) := by
    intro o ch hK t6 t7 t8 d y c f
    refine ev_loop (α := Nat × Option Value × Option Value × Option Value ×  Int32 × Int32 × Int32 × (Nat → Int32)) (fun q => 4 - q.1) (fun q => q.1 ≤ 4) (fun q => [some (.ref 13), some (.int x), some (.int N), some (.int o), some (.int ch), some (.int (Int32.ofNat q.1)), q.2.1, q.2.2.1, q.2.2.2.1]) (fun _ => []) (fun q => rz_w (rz_up (rz_up (rz_up v 12 q.2.2.2.2.2.2.1) 15 q.2.2.2.2.2.1) 8 q.2.2.2.2.1) (rz_ua a 10 q.2.2.2.2.2.2.2) g) ?_ (1, t6, t7, t8, d, y, c, f) (by show 1 ≤ 4; omega)
    rintro ⟨k, t6, t7, t8, d, y, c, f⟩ hk ih
    dsimp only at hk ih ⊢
    have next : k < 4 → ∀ (t6 t7 t8 : Option Value) (d y c : Int32) (f : Nat → Int32), rz_E xs xl 39 136 [some (.ref 13), some (.int x), some (.int N), some (.int o), some (.int ch), some (.int (Int32.ofNat k)), t6, t7, t8] [] (rz_w (rz_up (rz_up (rz_up v 12 c) 15 y) 8 d) (rz_ua a 10 f) g) 0 0 (fun q w' => (∃ u, q = .inl (some (.int u))) ∧ ∃ d y c f, w' = rz_w (rz_up (rz_up (rz_up v 12 c) 15 y) 8 d) (rz_ua a 10 f) g) := fun hk' t6 t7 t8 d y c f => by
      have h9 := ih (k + 1, t6, t7, t8, d, y, c, f) (by show k + 1 ≤ 4; omega) (by show 4 - (k + 1) < 4 - k; omega)
      dsimp only at h9
      rw [← rz_succ k] at h9
      exact ev_ps 2 rfl h9
    refine ev_ps 2 rfl (ev_ic (cd := .ge) rfl (fun h => hK _ _ _ _ _ _ _ _) (fun h => ?_))
    have hk' : k < 4 := rn_ge_f (k := 4) (by omega) (by omega) h
    exact ev_ps 2 rfl (Ls o ch (Int32.ofNat k) (fun t6 t7 t8 d y c f => next hk' _ _ _ _ _ _ _) _ _ _ _ _ _)
  have Lo : ∀ (t4 t5 t6 t7 t8 : Option Value) (d y c : Int32) (f : Nat → Int32), rz_E xs xl 39 13 [some (.ref 13), some (.int x), some (.int N), some (.int (Int32.ofNat 0)), t4, t5, t6, t7, t8] [] (rz_w (rz_up (rz_up (rz_up v 12 c) 15 y) 8 d) (rz_ua a 10 f) g) 0 0 (fun q w' => (∃ u, q = .inl (some (.int u))) ∧ ∃ d y c f, w' = rz_w (rz_up (rz_up (rz_up v 12 c) 15 y) 8 d) (rz_ua a 10 f) g) := by
    intro t4 t5 t6 t7 t8 d y c f
    refine ev_loop (α := Nat × Option Value × Option Value × Option Value × Option Value × Option Value × Int32 × Int32 × Int32 × (Nat → Int32)) (fun q => 10 - q.1) (fun q => q.1 ≤ 10) (fun q => [some (.ref 13), some (.int x), some (.int N), some (.int (Int32.ofNat q.1)), q.2.1, q.2.2.1, q.2.2.2.1, q.2.2.2.2.1, q.2.2.2.2.2.1]) (fun _ => []) (fun q => rz_w (rz_up (rz_up (rz_up v 12 q.2.2.2.2.2.2.2.2.1) 15 q.2.2.2.2.2.2.2.1) 8 q.2.2.2.2.2.2.1) (rz_ua a 10 q.2.2.2.2.2.2.2.2.2) g) ?_ (0, t4, t5, t6, t7, t8, d, y, c, f) (Nat.zero_le _)
    rintro ⟨k, t4, t5, t6, t7, t8, d, y, c, f⟩ hk ih
    dsimp only at hk ih ⊢
    refine ev_ps 2 rfl (ev_ic (cd := .gt) rfl (fun h => ?_) (fun h => ?_))
    · exact ev_ps 1 rfl (ev_ret rfl rfl ⟨⟨_, rfl⟩, d, y, c, f, rfl⟩)
    · have hk' : k < 10 := by
        have : k ≤ 9 := rn_gt_f (k := 9) (by omega) (by omega) h
        omega
      have next : ∀ (t4 t5 t6 t7 t8 : Option Value) (d y c : Int32) (f : Nat → Int32), rz_E xs xl 39 142 [some (.ref 13), some (.int x), some (.int N), some (.int (Int32.ofNat k)), t4, t5, t6, t7, t8] [] (rz_w (rz_up (rz_up (rz_up v 12 c) 15 y) 8 d) (rz_ua a 10 f) g) 0 0 (fun q w' => (∃ u, q = .inl (some (.int u))) ∧ ∃ d y c f, w' = rz_w (rz_up (rz_up (rz_up v 12 c) 15 y) 8 d) (rz_ua a 10 f) g) := fun t4 t5 t6 t7 t8 d y c f => by
        have h9 := ih (k + 1, t4, t5, t6, t7, t8, d, y, c, f) (by show k + 1 ≤ 10; omega) (by show 10 - (k + 1) < 10 - k; omega)
        dsimp only at h9
        rw [← rz_succ k] at h9
        exact ev_ps 2 rfl h9
      refine ev_ps 2 rfl (ev_ic (cd := .gt) rfl (fun h => ?_) (fun h => ?_))
      · exact ev_ps 4 rfl (Ld (Int32.ofNat k) _ (fun t5 t6 t7 t8 d y c f => next _ _ _ _ _ _ _ _ _) _ _ _ _ _ _ _)
      · exact ev_ps 5 rfl (Ld (Int32.ofNat k) _ (fun t5 t6 t7 t8 d y c f => next _ _ _ _ _ _ _ _ _) _ _ _ _ _ _ _)
  exact ev_w (w2 := rz_w (rz_up (rz_up (rz_up v 12 (v 12)) 15 (v 15)) 8 (v 8)) (rz_ua a 10 (a 10)) g) rfl (Lo _ _ _ _ _ _ _ _ _)
theorem c_imprPutForRow {p n m : Nat} (x : Int32) (hv : v 0 = Int32.ofNat m) (hm : m ≤ 24) (hn1 : 1 ≤ n) (hpn : p + n ≤ m) : rz_C xs xl 44 [.ref 13, .ref 1, .int (Int32.ofNat p), .int (Int32.ofNat n), .int x] (rz_w v a g)
    (fun q w' => (∃ u, q = .inl (some (.int u))) ∧ ∃ (k : Nat) (r b : Int32) (f f2 : Nat → Int32), k ≤ 24 ∧ w' = rz_w (rz_up (rz_up (rz_up v 13 r) 14 b) 0 (Int32.ofNat k)) (rz_ua (rz_ua a 0 f) 6 f2) g) := by
  refine ev_ps 6 rfl (ev_w (w2 := rz_w (rz_up (rz_up v 13 (v 13 + Int32.ofInt 1)) 14 (v 14)) a g) rfl ?_)
  have main : ∀ b : Int32, rz_E xs xl 44 26 [some (.ref 13), some (.ref 1), some (.int (Int32.ofNat p)), some (.int (Int32.ofNat n)), some (.int x), none] [] (rz_w (rz_up (rz_up v 13 (v 13 + Int32.ofInt 1)) 14 b) a g) 0 0 (fun q w' => (∃ u, q = .inl (some (.int u))) ∧ ∃ (k : Nat) (r b : Int32) (f f2 : Nat → Int32), k ≤ 24 ∧ w' = rz_w (rz_up (rz_up (rz_up v 13 r) 14 b) 0 (Int32.ofNat k)) (rz_ua (rz_ua a 0 f) 6 f2) g) := by
    intro b
    refine ev_ps 4 rfl (ev_call (av := [_, _, _, _]) rfl rfl rfl rfl ⟨Nat.le_of_ble_eq_true rfl, rfl⟩ ⟨Nat.le_of_ble_eq_true rfl, Nat.le_of_ble_eq_true rfl⟩ (c_progPutForRow _ (m := m) hv hm hn1 hpn) ?_)
    rintro _ _ ⟨c, f, hc, rfl, rfl⟩
    refine ev_ps 4 rfl (ev_call (av := [_, _]) rfl rfl rfl rfl ⟨Nat.le_of_ble_eq_true rfl, rfl⟩ ⟨Nat.le_of_ble_eq_true rfl, Nat.le_of_ble_eq_true rfl⟩ (c_findFor_14 (n := m - (n - c)) rfl (by omega)) ?_)
    rintro _ _ ⟨rfl, f2, rfl⟩
    exact ev_ps 1 rfl (ev_ret rfl rfl ⟨⟨_, rfl⟩, m - (n - c), _, b, f, f2, by omega, rfl⟩)
  refine ev_ps 2 rfl (ev_ic (cd := .ne) rfl (fun h => main _) (fun h => ?_))
  exact ev_ps 6 rfl (ev_w (w2 := rz_w (rz_up (rz_up v 13 (v 13 + Int32.ofInt 1)) 14 (v 14 + Int32.ofInt 1)) a g) rfl (main _))
def rz_ci (v : Nat → Int32) : Prop := (∃ n : Nat, n ≤ 24 ∧ v 0 = Int32.ofNat n) ∧ (v 4 = 0 ∨ v 4 = 1)
def rz_cf (v : Nat → Int32) (a : Nat → Nat → Int32) (v' : Nat → Int32) (a' : Nat → Nat → Int32) : Prop := (∀ k, 20 ≤ k → v' k = v k) ∧ ∀ k, 20 ≤ k → a' k = a k
theorem rz_cf.rf {v : Nat → Int32} {a : Nat → Nat → Int32} : rz_cf v a v a := ⟨fun _ _ => rfl, fun _ _ => rfl⟩
theorem rz_cf.up {v v' : Nat → Int32} {a a' : Nat → Nat → Int32} (h : rz_cf v a v' a') {k : Nat} (hk : k < 20) (x : Int32) : rz_cf v a (rz_up v' k x) a' :=
  ⟨fun j hj => (if_neg (by omega)).trans (h.1 j hj), h.2⟩
theorem rz_cf.ua {v v' : Nat → Int32} {a a' : Nat → Nat → Int32} (h : rz_cf v a v' a') {k : Nat} (hk : k < 20) (f : Nat → Int32) : rz_cf v a v' (rz_ua a' k f) :=
  ⟨h.1, fun j hj => (if_neg (by omega)).trans (h.2 j hj)⟩
theorem rz_cf.tr {v v1 v2 : Nat → Int32} {a a1 a2 : Nat → Nat → Int32} (h : rz_cf v a v1 a1) (h2 : rz_cf v1 a1 v2 a2) : rz_cf v a v2 a2 :=
  ⟨fun j hj => (h2.1 j hj).trans (h.1 j hj), fun j hj => (h2.2 j hj).trans (h.2 j hj)⟩
/-- what a method of the class leaves: its own part of the world in order, the rest as it was -/
def rz_cp (v : Nat → Int32) (a : Nat → Nat → Int32) (g : Nat → Int64) (P : rz_R → Prop) : rz_R → rz_W → Prop := fun q w' => P q ∧ ∃ v' a', w' = rz_w v' a' g ∧ rz_cf v a v' a' ∧ rz_ci v'
def rz_pi : rz_R → Prop := fun q => ∃ u, q = .inl (some (.int u))
theorem c_improveAt {p m : Nat} (hci : rz_ci v) (hv : v 0 = Int32.ofNat m) (hm : m ≤ 24) (hp : p < m) : rz_C xs xl 22 [.ref 13, .ref 1, .int (Int32.ofNat p)] (rz_w v a g) (rz_cp v a g rz_pi) := by
  refine ev_ps 2 rfl ?_
  refine ev_loop (α := Nat × Option Value × Option Value × (Nat → Int32) × (Nat → Nat → Int32)) (fun q => q.1) (fun q => q.1 ≤ 3 ∧ rz_cf v a q.2.2.2.1 q.2.2.2.2 ∧ rz_ci q.2.2.2.1 ∧ q.2.2.2.1 0 = Int32.ofNat m) (fun q => [some (.ref 13), some (.ref 1), some (.int (Int32.ofNat p)), some (.int (Int32.ofNat q.1)), q.2.1, q.2.2.1]) (fun _ => []) (fun q => rz_w q.2.2.2.1 q.2.2.2.2 g) ?_ (3, none, none, v, a) ⟨by show 3 ≤ 3; omega, rz_cf.rf, hci, hv⟩
  rintro ⟨n, t4, t5, v1, a1⟩ ⟨hn, hcf, hci1, hv1⟩ ih
  dsimp only at hn hcf hci1 hv1 ih ⊢
  refine ev_ps 2 rfl (ev_ic (cd := .lt) rfl (fun h => ?_) (fun h => ?_))
  · exact ev_ps 3 rfl (ev_ret rfl rfl ⟨⟨_, rfl⟩, v1, a1, rfl, hcf, hci1⟩)
  · have hn1 : 1 ≤ n := rn_lt_f (k := 1) (by omega) (by omega) h
    have next : ∀ (t4 t5 : Option Value) (v2 : Nat → Int32) (a2 : Nat → Nat → Int32), rz_cf v a v2 a2 → rz_ci v2 → v2 0 = Int32.ofNat m → rz_E xs xl 22 90 [some (.ref 13), some (.ref 1), some (.int (Int32.ofNat p)), some (.int (Int32.ofNat n)), t4, t5] [] (rz_w v2 a2 g) 0 0 (rz_cp v a g rz_pi) := by
      intro t4 t5 v2 a2 hcf2 hci2 hv2
      have h9 := ih (n - 1, t4, t5, v2, a2) ⟨by show n - 1 ≤ 3; omega, hcf2, hci2, hv2⟩ (by show n - 1 < n; omega)
      dsimp only at h9
      rw [← rz_sub (k := n) (n := 1) hn1, show Int32.ofNat n - Int32.ofNat 1 = Int32.ofNat n + Int32.ofInt (-1) from Int32.sub_eq_add_neg _ _] at h9
      exact ev_ps 2 rfl h9
    refine ev_ps 3 rfl (ev_call (av := [_, _, _]) rfl rfl rfl rfl ⟨Nat.le_of_ble_eq_true rfl, rfl⟩ ⟨Nat.le_of_ble_eq_true rfl, Nat.le_of_ble_eq_true rfl⟩ (c_hasRow hv1 hm (by omega) hn hn1) ?_)
    rintro _ _ ⟨⟨u, hu, hP, rfl⟩, rfl⟩
    refine ev_if (cd := .eq) rfl (fun h1 => next _ _ _ _ hcf hci1 hv1) (fun h1 => ?_)
    have hpn : p + n ≤ m := hP (hu.resolve_left (rc_eq_f h1))
    refine ev_ps 5 rfl (ev_call (av := [_, _, _, _]) rfl rfl rfl rfl ⟨Nat.le_of_ble_eq_true rfl, rfl⟩ ⟨Nat.le_of_ble_eq_true rfl, Nat.le_of_ble_eq_true rfl⟩ (c_takeFrom_21 hn (by omega)) ?_)
    rintro _ _ ⟨rfl, f, rfl⟩
    refine ev_ps 7 rfl ?_
    refine ev_call (av := [.ref 14, .int (Int32.ofNat (p + n))]) rfl (by rw [← rz_add]; rfl) rfl rfl ⟨Nat.le_of_ble_eq_true rfl, rfl⟩ ⟨Nat.le_of_ble_eq_true rfl, Nat.le_of_ble_eq_true rfl⟩ (c_before_14 (by omega)) ?_
    rintro _ _ ⟨⟨u2, rfl⟩, rfl⟩
    refine ev_call (av := [_]) rfl rfl rfl rfl ⟨Nat.le_of_ble_eq_true rfl, rfl⟩ ⟨Nat.le_of_ble_eq_true rfl, Nat.le_of_ble_eq_true rfl⟩ (c_maskOf _) ?_
    rintro _ _ ⟨⟨u3, rfl⟩, rfl⟩
    refine ev_ps 3 rfl (ev_call (av := [_, _]) rfl rfl rfl rfl ⟨Nat.le_of_ble_eq_true rfl, rfl⟩ ⟨Nat.le_of_ble_eq_true rfl, Nat.le_of_ble_eq_true rfl⟩ (c_nothingDoes _ (n := n) rfl hn) ?_)
    rintro _ _ ⟨⟨u4, hu4, rfl⟩, d, y, c, f2, rfl⟩
    have tail : ∀ (t : Int32) (v2 : Nat → Int32) (a2 : Nat → Nat → Int32), rz_cf v a v2 a2 → rz_ci v2 → v2 0 = Int32.ofNat m → rz_E xs xl 22 71 [some (.ref 13), some (.ref 1), some (.int (Int32.ofNat p)), some (.int (Int32.ofNat n)), some (.int t), some (.int u3)] [] (rz_w v2 a2 g) 0 0 (rz_cp v a g rz_pi) := by
      intro t v2 a2 hcf2 hci2 hv2
      refine ev_ps 2 rfl (ev_ic (cd := .eq) rfl (fun h => next _ _ _ _ hcf2 hci2 hv2) (fun h => ?_))
      refine ev_ps 6 rfl (ev_call (av := [_, _, _, _, _]) rfl rfl rfl rfl ⟨Nat.le_of_ble_eq_true rfl, rfl⟩ ⟨Nat.le_of_ble_eq_true rfl, Nat.le_of_ble_eq_true rfl⟩ (c_imprPutForRow _ hv2 hm hn1 hpn) ?_)
      rintro _ _ ⟨⟨u5, rfl⟩, k, r, b, f3, f4, hk, rfl⟩
      exact ev_ps 1 rfl (ev_ret rfl rfl ⟨⟨_, rfl⟩, _, _, rfl, (((((hcf2.up (by decide) r).up (by decide) b).up (by decide) _).ua (by decide) f3).ua (by decide) f4), ⟨k, hk, rfl⟩, hci2.2⟩)
    have hcf3 : rz_cf v a (rz_up (rz_up (rz_up (rz_up v1 11 (Int32.ofNat n)) 12 c) 15 y) 8 d) (rz_ua (rz_ua a1 9 f) 10 f2) := (((((hcf.up (by decide) _).up (by decide) c).up (by decide) y).up (by decide) d).ua (by decide) f).ua (by decide) f2
    have hci3 : rz_ci (rz_up (rz_up (rz_up (rz_up v1 11 (Int32.ofNat n)) 12 c) 15 y) 8 d) := hci1
    refine ev_if (cd := .ne) rfl (fun h2 => ?_) (fun h2 => ?_)
    · exact tail _ _ _ hcf3 hci3 hv1
    · refine ev_ps 2 rfl (ev_ic (cd := .le) rfl (fun h3 => ?_) (fun h3 => ?_))
      · exact ev_ps 2 rfl (tail _ _ _ hcf3 hci3 hv1)
      · refine ev_ps 2 rfl (ev_call (av := [_, _]) rfl rfl rfl rfl ⟨Nat.le_of_ble_eq_true rfl, rfl⟩ ⟨Nat.le_of_ble_eq_true rfl, Nat.le_of_ble_eq_true rfl⟩ (c_firstInstruction _ (n := n) rfl hn) ?_)
        rintro _ _ ⟨⟨u5, rfl⟩, d2, y2, c2, f5, rfl⟩
        refine ev_ps 2 rfl (tail _ _ _ ((((hcf3.up (by decide) c2).up (by decide) y2).up (by decide) d2).ua (by decide) f5) hci3 hv1)
theorem c_improveProgram (hci : rz_ci v) : rz_C xs xl 9 [.ref 13, .ref 1] (rz_w v a g) (rz_cp v a g rz_pi) := by
  obtain ⟨n, hn, hv⟩ := hci.1
  refine ev_ps 1 rfl (ev_call (av := [_]) rfl rfl rfl rfl ⟨Nat.le_of_ble_eq_true rfl, rfl⟩ ⟨Nat.le_of_ble_eq_true rfl, Nat.le_of_ble_eq_true rfl⟩ (c_length) ?_)
  rintro _ _ ⟨rfl, rfl⟩
  refine ev_ps 4 rfl (ev_call (av := [_, _]) rfl rfl rfl rfl ⟨Nat.le_of_ble_eq_true rfl, rfl⟩ ⟨Nat.le_of_ble_eq_true rfl, Nat.le_of_ble_eq_true rfl⟩ (c_findFor_14 hv hn) ?_)
  rintro _ _ ⟨rfl, f, rfl⟩
  refine ev_ps 4 rfl ?_
  refine ev_loop (α := Nat × Int32 × (Nat → Int32) × (Nat → Nat → Int32)) (fun q => 24 - q.1) (fun q => q.1 ≤ 24 ∧ rz_cf v a q.2.2.1 q.2.2.2 ∧ rz_ci q.2.2.1) (fun q => [some (.ref 13), some (.ref 1), some (.int (v 0)), some (.int q.2.1), some (.int (Int32.ofNat q.1))]) (fun _ => []) (fun q => rz_w q.2.2.1 q.2.2.2 g) ?_ (0, 0, v, rz_ua a 6 f) ⟨Nat.zero_le _, rz_cf.rf.ua (by decide) f, hci⟩
  rintro ⟨k, x, v1, a1⟩ ⟨hk, hcf, hci1⟩ ih
  dsimp only at hk hcf hci1 ih ⊢
  have fin : rz_E xs xl 9 46 [some (.ref 13), some (.ref 1), some (.int (v 0)), some (.int x), some (.int (Int32.ofNat k))] [] (rz_w v1 a1 g) 0 0 (rz_cp v a g rz_pi) := by
    refine ev_ps 2 rfl (ev_call (av := [_]) rfl rfl rfl rfl ⟨Nat.le_of_ble_eq_true rfl, rfl⟩ ⟨Nat.le_of_ble_eq_true rfl, Nat.le_of_ble_eq_true rfl⟩ (c_length) ?_)
    rintro _ _ ⟨rfl, rfl⟩
    exact ev_ps 1 rfl (ev_ret rfl rfl ⟨⟨_, rfl⟩, v1, a1, rfl, hcf, hci1⟩)
  refine ev_ps 2 rfl (ev_ic (cd := .ge) rfl (fun h => fin) (fun h => ?_))
  have hk' : k < 24 := rn_ge_f (k := 24) (by omega) (by omega) h
  refine ev_ps 2 rfl (ev_call (av := [_, _]) rfl rfl rfl rfl ⟨Nat.le_of_ble_eq_true rfl, rfl⟩ ⟨Nat.le_of_ble_eq_true rfl, Nat.le_of_ble_eq_true rfl⟩ (c_has _) ?_)
  rintro _ _ ⟨⟨u, hu, hP, rfl⟩, rfl⟩
  refine ev_if (cd := .eq) rfl (fun h1 => fin) (fun h1 => ?_)
  obtain ⟨hx0, hx1⟩ := hP (hu.resolve_left (rc_eq_f h1))
  obtain ⟨n1, hn1, hv1⟩ := hci1.1
  rw [hv1] at hx1
  obtain ⟨p, hp, rfl⟩ := rz_idx (by omega) hx0 hx1
  refine ev_ps 3 rfl (ev_call (av := [_, _, _]) rfl rfl rfl rfl ⟨Nat.le_of_ble_eq_true rfl, rfl⟩ ⟨Nat.le_of_ble_eq_true rfl, Nat.le_of_ble_eq_true rfl⟩ (c_improveAt hci1 hv1 hn1 hp) ?_)
  rintro _ _ ⟨⟨u2, rfl⟩, v2, a2, rfl, hcf2, hci2⟩
  have h9 := ih (k + 1, u2, v2, a2) ⟨by show k + 1 ≤ 24; omega, hcf.tr hcf2, hci2⟩ (by show 24 - (k + 1) < 24 - k; omega)
  dsimp only at h9
  rw [← rz_succ k] at h9
  exact ev_ps 3 rfl h9
end RZP5
/-! the class's own methods (place 0), and the law's that call them -/
section RZP6
variable {xs : Nat → Int32} {xl : Nat} {v : Nat → Int32} {a : Nat → Nat → Int32} {g : Nat → Int64}
theorem p_clear (hci : rz_ci v) : rz_C xs xl 1 [.ref 0] (rz_w v a g) (rz_cp v a g rz_pi) := by
  refine ev_ps 2 rfl (ev_call (av := [_]) rfl rfl rfl rfl ⟨Nat.le_of_ble_eq_true rfl, rfl⟩ ⟨Nat.le_of_ble_eq_true rfl, Nat.le_of_ble_eq_true rfl⟩ (c_empty) ?_)
  rintro _ _ ⟨rfl, rfl⟩
  exact ev_ret rfl rfl ⟨⟨_, rfl⟩, _, _, rfl, rz_cf.rf.up (by decide) _, ⟨0, by omega, rfl⟩, hci.2⟩
theorem p_size (hci : rz_ci v) : rz_C xs xl 3 [.ref 0] (rz_w v a g) (rz_cp v a g rz_pi) := by
  refine ev_ps 2 rfl (ev_call (av := [_]) rfl rfl rfl rfl ⟨Nat.le_of_ble_eq_true rfl, rfl⟩ ⟨Nat.le_of_ble_eq_true rfl, Nat.le_of_ble_eq_true rfl⟩ (c_length) ?_)
  rintro _ _ ⟨rfl, rfl⟩
  exact ev_ret rfl rfl ⟨⟨_, rfl⟩, _, _, rfl, rz_cf.rf, hci⟩
theorem p_result (hci : rz_ci v) (x : Int32) : rz_C xs xl 5 [.ref 0, .int x] (rz_w v a g) (rz_cp v a g rz_pi) := by
  refine ev_ps 3 rfl (ev_call (av := [_, _]) rfl rfl rfl rfl ⟨Nat.le_of_ble_eq_true rfl, rfl⟩ ⟨Nat.le_of_ble_eq_true rfl, Nat.le_of_ble_eq_true rfl⟩ (c_outcome _) ?_)
  rintro _ _ ⟨⟨u, rfl⟩, rfl⟩
  exact ev_ret rfl rfl ⟨⟨_, rfl⟩, _, _, rfl, rz_cf.rf, hci⟩
theorem p_improve (hci : rz_ci v) : rz_C xs xl 8 [.ref 0] (rz_w v a g) (rz_cp v a g rz_pi) := by
  refine ev_ps 4 rfl (ev_call (av := [_, _]) rfl rfl rfl rfl ⟨Nat.le_of_ble_eq_true rfl, rfl⟩ ⟨Nat.le_of_ble_eq_true rfl, Nat.le_of_ble_eq_true rfl⟩ (c_improveProgram hci) ?_)
  rintro _ _ ⟨⟨u, rfl⟩, v2, a2, rfl, h1, h2⟩
  exact ev_ret rfl rfl ⟨⟨_, rfl⟩, _, _, rfl, h1, h2⟩
theorem p_count (hci : rz_ci v) (x : Int32) : rz_C xs xl 48 [.ref 0, .int x] (rz_w v a g) (rz_cp v a g rz_pi) := by
  refine ev_ps 3 rfl (ev_call (av := [_, _]) rfl rfl rfl rfl ⟨Nat.le_of_ble_eq_true rfl, rfl⟩ ⟨Nat.le_of_ble_eq_true rfl, Nat.le_of_ble_eq_true rfl⟩ (c_counted _) ?_)
  rintro _ _ ⟨⟨u, rfl⟩, rfl⟩
  exact ev_ret rfl rfl ⟨⟨_, rfl⟩, _, _, rfl, rz_cf.rf, hci⟩
theorem p_add (hci : rz_ci v) (x0 x1 x2 x3 : Int32) : rz_C xs xl 50 [.ref 0, .int x0, .int x1, .int x2, .int x3] (rz_w v a g) (rz_cp v a g (fun q => rz_pi q ∨ q = .inr 0 ∨ q = .inr 1)) := by
  refine ev_ps 4 rfl (ev_call (av := [_, _, _, _]) rfl rfl rfl rfl ⟨Nat.le_of_ble_eq_true rfl, rfl⟩ ⟨Nat.le_of_ble_eq_true rfl, Nat.le_of_ble_eq_true rfl⟩ (c_isLegal _ _ _ _) ?_)
  rintro _ _ ⟨⟨u, hu, rfl⟩, rfl⟩
  refine ev_if (cd := .ne) rfl (fun h => ?_) (fun h => ?_)
  · refine ev_ps 2 rfl (ev_call (av := [_]) rfl rfl rfl rfl ⟨Nat.le_of_ble_eq_true rfl, rfl⟩ ⟨Nat.le_of_ble_eq_true rfl, Nat.le_of_ble_eq_true rfl⟩ (c_isFull) ?_)
    rintro _ _ ⟨⟨u2, hu2, hP, rfl⟩, rfl⟩
    refine ev_if (cd := .eq) rfl (fun h2 => ?_) (fun h2 => ?_)
    · obtain ⟨n, hn, hv⟩ := hci.1
      have hlt := hP (rc_eq_t h2)
      rw [hv] at hlt
      have hn' : n < 24 := (rz_lt_iff (k := 24) (by omega) (by omega)).mp hlt
      refine ev_ps 6 rfl (ev_call (av := [_, _, _, _]) rfl rfl rfl rfl ⟨Nat.le_of_ble_eq_true rfl, rfl⟩ ⟨Nat.le_of_ble_eq_true rfl, Nat.le_of_ble_eq_true rfl⟩ (c_pack _ _ _ _) ?_)
      rintro _ _ ⟨rfl, rfl⟩
      refine ev_call (av := [_, _]) rfl rfl rfl rfl ⟨Nat.le_of_ble_eq_true rfl, rfl⟩ ⟨Nat.le_of_ble_eq_true rfl, Nat.le_of_ble_eq_true rfl⟩ (c_append _ hv hn') ?_
      rintro _ _ ⟨⟨u3, rfl⟩, f, rfl⟩
      exact ev_ret rfl rfl ⟨Or.inl ⟨_, rfl⟩, _, _, rfl, (rz_cf.rf.up (by decide) _).ua (by decide) f, ⟨n + 1, by omega, by show v 0 + 1 = _; rw [hv, rz_succ]⟩, hci.2⟩
    · exact ev_thr rfl ⟨Nat.le_of_ble_eq_true rfl, Nat.le_of_ble_eq_true rfl⟩ ⟨Or.inr (Or.inr rfl), v, a, rfl, rz_cf.rf, hci⟩
  · exact ev_thr rfl ⟨Nat.le_of_ble_eq_true rfl, Nat.le_of_ble_eq_true rfl⟩ ⟨Or.inr (Or.inl rfl), v, a, rfl, rz_cf.rf, hci⟩
theorem p_replace (hci : rz_ci v) (x0 x1 x2 x3 x4 : Int32) : rz_C xs xl 55 [.ref 0, .int x0, .int x1, .int x2, .int x3, .int x4] (rz_w v a g) (rz_cp v a g (fun q => q = .inl none ∨ q = .inr 0 ∨ q = .inr 2)) := by
  refine ev_ps 4 rfl (ev_call (av := [_, _, _, _]) rfl rfl rfl rfl ⟨Nat.le_of_ble_eq_true rfl, rfl⟩ ⟨Nat.le_of_ble_eq_true rfl, Nat.le_of_ble_eq_true rfl⟩ (c_isLegal _ _ _ _) ?_)
  rintro _ _ ⟨⟨u, hu, rfl⟩, rfl⟩
  refine ev_if (cd := .ne) rfl (fun h => ?_) (fun h => ?_)
  · refine ev_ps 3 rfl (ev_call (av := [_, _]) rfl rfl rfl rfl ⟨Nat.le_of_ble_eq_true rfl, rfl⟩ ⟨Nat.le_of_ble_eq_true rfl, Nat.le_of_ble_eq_true rfl⟩ (c_has _) ?_)
    rintro _ _ ⟨⟨u2, hu2, hP, rfl⟩, rfl⟩
    refine ev_if (cd := .ne) rfl (fun h2 => ?_) (fun h2 => ?_)
    · obtain ⟨n, hn, hv⟩ := hci.1
      obtain ⟨hx0, hx1⟩ := hP (hu2.resolve_left (rc_ne_t h2))
      rw [hv] at hx1
      obtain ⟨p, hp, rfl⟩ := rz_idx (by omega) hx0 hx1
      refine ev_ps 7 rfl (ev_call (av := [_, _, _, _]) rfl rfl rfl rfl ⟨Nat.le_of_ble_eq_true rfl, rfl⟩ ⟨Nat.le_of_ble_eq_true rfl, Nat.le_of_ble_eq_true rfl⟩ (c_pack _ _ _ _) ?_)
      rintro _ _ ⟨rfl, rfl⟩
      refine ev_call (av := [_, _, _]) rfl rfl rfl rfl ⟨Nat.le_of_ble_eq_true rfl, rfl⟩ ⟨Nat.le_of_ble_eq_true rfl, Nat.le_of_ble_eq_true rfl⟩ (c_put _ (by omega)) ?_
      rintro _ _ ⟨rfl, f, rfl⟩
      exact ev_ret rfl rfl ⟨Or.inl rfl, _, _, rfl, rz_cf.rf.ua (by decide) f, hci⟩
    · exact ev_thr rfl ⟨Nat.le_of_ble_eq_true rfl, Nat.le_of_ble_eq_true rfl⟩ ⟨Or.inr (Or.inr rfl), v, a, rfl, rz_cf.rf, hci⟩
  · exact ev_thr rfl ⟨Nat.le_of_ble_eq_true rfl, Nat.le_of_ble_eq_true rfl⟩ ⟨Or.inr (Or.inl rfl), v, a, rfl, rz_cf.rf, hci⟩
theorem p_instruction (hci : rz_ci v) (x0 x1 : Int32) : rz_C xs xl 57 [.ref 0, .int x0, .int x1] (rz_w v a g) (rz_cp v a g (fun q => rz_pi q ∨ q = .inr 0 ∨ q = .inr 2)) := by
  refine ev_ps 1 rfl (ev_if (cd := .lt) rfl (fun h => ?_) (fun h => ?_))
  · exact ev_thr rfl ⟨Nat.le_of_ble_eq_true rfl, Nat.le_of_ble_eq_true rfl⟩ ⟨Or.inr (Or.inl rfl), v, a, rfl, rz_cf.rf, hci⟩
  · refine ev_ps 2 rfl (ev_ic (cd := .le) rfl (fun h => ?_) (fun h => ?_))
    · refine ev_ps 3 rfl (ev_call (av := [_, _]) rfl rfl rfl rfl ⟨Nat.le_of_ble_eq_true rfl, rfl⟩ ⟨Nat.le_of_ble_eq_true rfl, Nat.le_of_ble_eq_true rfl⟩ (c_has _) ?_)
      rintro _ _ ⟨⟨u2, hu2, hP, rfl⟩, rfl⟩
      refine ev_if (cd := .ne) rfl (fun h2 => ?_) (fun h2 => ?_)
      · obtain ⟨n, hn, hv⟩ := hci.1
        obtain ⟨hx0, hx1⟩ := hP (hu2.resolve_left (rc_ne_t h2))
        rw [hv] at hx1
        obtain ⟨p, hp, rfl⟩ := rz_idx (by omega) hx0 hx1
        refine ev_ps 3 rfl (ev_call (av := [_, _]) rfl rfl rfl rfl ⟨Nat.le_of_ble_eq_true rfl, rfl⟩ ⟨Nat.le_of_ble_eq_true rfl, Nat.le_of_ble_eq_true rfl⟩ (c_codeAt (by omega)) ?_)
        rintro _ _ ⟨⟨c, rfl⟩, rfl⟩
        refine ev_ps 1 rfl (ev_call (av := [_, _]) rfl rfl rfl rfl ⟨Nat.le_of_ble_eq_true rfl, rfl⟩ ⟨Nat.le_of_ble_eq_true rfl, Nat.le_of_ble_eq_true rfl⟩ (c_part _ _) ?_)
        rintro _ _ ⟨⟨c2, rfl⟩, rfl⟩
        exact ev_ret rfl rfl ⟨Or.inl ⟨_, rfl⟩, _, _, rfl, rz_cf.rf, hci⟩
      · exact ev_thr rfl ⟨Nat.le_of_ble_eq_true rfl, Nat.le_of_ble_eq_true rfl⟩ ⟨Or.inr (Or.inr rfl), v, a, rfl, rz_cf.rf, hci⟩
    · exact ev_thr rfl ⟨Nat.le_of_ble_eq_true rfl, Nat.le_of_ble_eq_true rfl⟩ ⟨Or.inr (Or.inl rfl), v, a, rfl, rz_cf.rf, hci⟩
def rz_sok (x y : Int32) : Prop := ¬ x < 1 ∧ x < 12 ∧ ¬ y < 0 ∧ ¬ 15 < y
theorem p_start (hci : rz_ci v) (x y : Int32) : rz_C xs xl 59 [.ref 0, .int x, .int y] (rz_w v a g) (rz_cp v a g (fun q => (q = .inl none ∧ rz_sok x y) ∨ (q = .inr 0 ∧ ¬ rz_sok x y))) := by
  refine ev_ps 2 rfl (ev_ic (cd := .lt) rfl (fun h1 => ?_) (fun h1 => ?_))
  · exact ev_thr rfl ⟨Nat.le_of_ble_eq_true rfl, Nat.le_of_ble_eq_true rfl⟩ ⟨Or.inr ⟨rfl, fun q => q.1 (rc_lt_t h1)⟩, v, a, rfl, rz_cf.rf, hci⟩
  · refine ev_ps 2 rfl (ev_ic (cd := .ge) rfl (fun h2 => ?_) (fun h2 => ?_))
    · exact ev_thr rfl ⟨Nat.le_of_ble_eq_true rfl, Nat.le_of_ble_eq_true rfl⟩ ⟨Or.inr ⟨rfl, fun q => Int32.not_le.mpr q.2.1 (rc_ge_t h2)⟩, v, a, rfl, rz_cf.rf, hci⟩
    · refine ev_ps 1 rfl (ev_if (cd := .lt) rfl (fun h3 => ?_) (fun h3 => ?_))
      · exact ev_thr rfl ⟨Nat.le_of_ble_eq_true rfl, Nat.le_of_ble_eq_true rfl⟩ ⟨Or.inr ⟨rfl, fun q => q.2.2.1 (rc_lt_t h3)⟩, v, a, rfl, rz_cf.rf, hci⟩
      · refine ev_ps 2 rfl (ev_ic (cd := .le) rfl (fun h4 => ?_) (fun h4 => ?_))
        · have hx : x < 12 := Int32.not_le.mp (rc_ge_f h2)
          have hok : rz_sok x y := ⟨rc_lt_f h1, hx, rc_lt_f h3, Int32.not_lt.mpr (rc_le_t h4)⟩
          obtain ⟨k, hk, rfl⟩ := rz_idx (n := 12) (by decide) (fun h => rc_lt_f h1 (Int32.lt_trans h (by decide))) hx
          refine ev_ps 4 rfl (ev_call (av := [_, _, _]) rfl rfl rfl rfl ⟨Nat.le_of_ble_eq_true rfl, rfl⟩ ⟨Nat.le_of_ble_eq_true rfl, Nat.le_of_ble_eq_true rfl⟩ (c_setStart _ hk) ?_)
          rintro _ _ ⟨rfl, r, f, rfl⟩
          exact ev_ret rfl rfl ⟨Or.inl ⟨rfl, hok⟩, _, _, rfl, (rz_cf.rf.up (by decide) r).ua (by decide) f, hci⟩
        · exact ev_thr rfl ⟨Nat.le_of_ble_eq_true rfl, Nat.le_of_ble_eq_true rfl⟩ ⟨Or.inr ⟨rfl, fun q => q.2.2.2 (Int32.not_le.mp (rc_le_f h4))⟩, v, a, rfl, rz_cf.rf, hci⟩
theorem p_run (hci : rz_ci v) (x : Int32) : rz_C xs xl 61 [.ref 0, .int x] (rz_w v a g) (rz_cp v a g (fun q => rz_pi q ∨ q = .inr 0)) := by
  refine ev_ps 1 rfl (ev_if (cd := .lt) rfl (fun h => ?_) (fun h => ?_))
  · exact ev_thr rfl ⟨Nat.le_of_ble_eq_true rfl, Nat.le_of_ble_eq_true rfl⟩ ⟨Or.inr rfl, v, a, rfl, rz_cf.rf, hci⟩
  · refine ev_ps 2 rfl (ev_ic (cd := .le) rfl (fun h2 => ?_) (fun h2 => ?_))
    · obtain ⟨n, hn, hv⟩ := hci.1
      obtain ⟨l, hl, rfl⟩ := rz_nat (rc_lt_f h)
      have hl5 : l ≤ 500 := rn_le_t (k := 500) hl (by omega) h2
      refine ev_ps 5 rfl (ev_call (av := [_, _, _]) rfl rfl rfl rfl ⟨Nat.le_of_ble_eq_true rfl, rfl⟩ ⟨Nat.le_of_ble_eq_true rfl, Nat.le_of_ble_eq_true rfl⟩ (c_perform hv hn hl5) ?_)
      rintro _ _ ⟨⟨u, rfl⟩, r, p, e, f, he, rfl⟩
      exact ev_ret rfl rfl ⟨Or.inl ⟨_, rfl⟩, _, _, rfl, (((rz_cf.rf.up (by decide) r).up (by decide) p).up (by decide) e).ua (by decide) f, hci.1, he⟩
    · exact ev_thr rfl ⟨Nat.le_of_ble_eq_true rfl, Nat.le_of_ble_eq_true rfl⟩ ⟨Or.inr rfl, v, a, rfl, rz_cf.rf, hci⟩
theorem p_live (hci : rz_ci v) (x : Int32) : rz_C xs xl 65 [.ref 0, .int x] (rz_w v a g) (rz_cp v a g (fun q => rz_pi q ∨ q = .inr 2)) := by
  refine ev_ps 1 rfl (ev_if (cd := .lt) rfl (fun h => ?_) (fun h => ?_))
  · exact ev_thr rfl ⟨Nat.le_of_ble_eq_true rfl, Nat.le_of_ble_eq_true rfl⟩ ⟨Or.inr rfl, v, a, rfl, rz_cf.rf, hci⟩
  · refine ev_ps 3 rfl (ev_call (av := [_]) rfl rfl rfl rfl ⟨Nat.le_of_ble_eq_true rfl, rfl⟩ ⟨Nat.le_of_ble_eq_true rfl, Nat.le_of_ble_eq_true rfl⟩ (c_length) ?_)
    rintro _ _ ⟨rfl, rfl⟩
    refine ev_ic (cd := .le) rfl (fun h2 => ?_) (fun h2 => ?_)
    · obtain ⟨n, hn, hv⟩ := hci.1
      obtain ⟨l, hl, rfl⟩ := rz_nat (rc_lt_f h)
      rw [hv] at h2
      have hl5 : l ≤ n := rn_le_t hl (by omega) h2
      refine ev_ps 4 rfl (ev_call (av := [_, _]) rfl rfl rfl rfl ⟨Nat.le_of_ble_eq_true rfl, rfl⟩ ⟨Nat.le_of_ble_eq_true rfl, Nat.le_of_ble_eq_true rfl⟩ (c_findFor_6 hv hn) ?_)
      rintro _ _ ⟨rfl, f, rfl⟩
      refine ev_ps 3 rfl (ev_call (av := [_, _]) rfl rfl rfl rfl ⟨Nat.le_of_ble_eq_true rfl, rfl⟩ ⟨Nat.le_of_ble_eq_true rfl, Nat.le_of_ble_eq_true rfl⟩ (c_before_6 (by omega)) ?_)
      rintro _ _ ⟨⟨u, rfl⟩, rfl⟩
      exact ev_ret rfl rfl ⟨Or.inl ⟨_, rfl⟩, _, _, rfl, rz_cf.rf.ua (by decide) f, hci⟩
    · exact ev_thr rfl ⟨Nat.le_of_ble_eq_true rfl, Nat.le_of_ble_eq_true rfl⟩ ⟨Or.inr rfl, v, a, rfl, rz_cf.rf, hci⟩
theorem p_block (hci : rz_ci v) (x : Int32) : rz_C xs xl 66 [.ref 0, .int x] (rz_w v a g) (rz_cp v a g (fun q => rz_pi q ∨ q = .inr 2)) := by
  refine ev_ps 3 rfl (ev_call (av := [_, _]) rfl rfl rfl rfl ⟨Nat.le_of_ble_eq_true rfl, rfl⟩ ⟨Nat.le_of_ble_eq_true rfl, Nat.le_of_ble_eq_true rfl⟩ (c_has _) ?_)
  rintro _ _ ⟨⟨u2, hu2, hP, rfl⟩, rfl⟩
  refine ev_if (cd := .ne) rfl (fun h2 => ?_) (fun h2 => ?_)
  · obtain ⟨n, hn, hv⟩ := hci.1
    obtain ⟨hx0, hx1⟩ := hP (hu2.resolve_left (rc_ne_t h2))
    rw [hv] at hx1
    obtain ⟨p, hp, rfl⟩ := rz_idx (by omega) hx0 hx1
    refine ev_ps 3 rfl (ev_call (av := [_, _]) rfl rfl rfl rfl ⟨Nat.le_of_ble_eq_true rfl, rfl⟩ ⟨Nat.le_of_ble_eq_true rfl, Nat.le_of_ble_eq_true rfl⟩ (c_beginOfBlock hv hn (by omega)) ?_)
    rintro _ _ ⟨⟨u, rfl⟩, rfl⟩
    exact ev_ret rfl rfl ⟨Or.inl ⟨_, rfl⟩, _, _, rfl, rz_cf.rf, hci⟩
  · exact ev_thr rfl ⟨Nat.le_of_ble_eq_true rfl, Nat.le_of_ble_eq_true rfl⟩ ⟨Or.inr rfl, v, a, rfl, rz_cf.rf, hci⟩
theorem c_allPlainX {x n : Int32} (h : rz_okr x n) : rz_C xs xl 25 [.ref 1, .int x, .int n] (rz_w v a g) (rz_bo (rz_w v a g) True) := by
  obtain ⟨k, hk, rfl, h⟩ := h
  rcases h with rfl | ⟨p, rfl, hp⟩
  · exact c_allPlain0 x
  · exact c_allPlain hp
theorem rz_okr_of {x n : Int32} {m : Nat} (hv : v 0 = Int32.ofNat m) (hm : m ≤ 24) (h0 : ¬ n < 0) (h3 : ¬ 3 < n) (h : n = 0 ∨ (¬ x < 0 ∧ ¬ v 0 - n < x)) : rz_okr x n := by
  obtain ⟨k, hk, rfl⟩ := rz_nat h0
  have hk3 : k ≤ 3 := Nat.not_lt.mp fun q => h3 ((rz_lt_iff (n := 3) (by omega) hk).mpr q)
  refine ⟨k, hk3, rfl, ?_⟩
  rcases h with h | ⟨hx, hx2⟩
  · exact Or.inl ((rz_eq_iff (k := 0) hk (by omega)).mp h)
  · by_cases hk0 : k = 0
    · exact Or.inl hk0
    · right
      obtain ⟨p, hp, rfl⟩ := rz_nat hx
      refine ⟨p, rfl, ?_⟩
      rw [hv] at hx2
      by_cases hmk : k ≤ m
      · rw [rz_sub hmk, rz_lt_iff (by omega) hp] at hx2
        omega
      · exfalso
        apply hx2
        have e : Int32.ofNat m - Int32.ofNat k < 0 := by
          have : ∀ m' < 25, ∀ n' < 4, m' < n' → Int32.ofNat m' - Int32.ofNat n' < 0 := by decide +kernel
          exact this m (by omega) k (by omega) (by omega)
        exact Int32.lt_of_lt_of_le e (Int32.not_lt.mp hx)
theorem p_same (hci : rz_ci v) (x n y m z : Int32) : rz_C xs xl 68 [.ref 0, .int x, .int n, .int y, .int m, .int z] (rz_w v a g) (rz_cp v a g (fun q => rz_pi q ∨ q = .inr 0 ∨ q = .inr 2 ∨ q = .inr 3)) := by
  refine ev_ps 1 rfl (ev_if (cd := .lt) rfl (fun h1 => ?_) (fun h1 => ?_))
  · exact ev_thr rfl ⟨Nat.le_of_ble_eq_true rfl, Nat.le_of_ble_eq_true rfl⟩ ⟨Or.inr (Or.inl rfl), v, a, rfl, rz_cf.rf, hci⟩
  refine ev_ps 2 rfl (ev_ic (cd := .gt) rfl (fun h2 => ?_) (fun h2 => ?_))
  · exact ev_thr rfl ⟨Nat.le_of_ble_eq_true rfl, Nat.le_of_ble_eq_true rfl⟩ ⟨Or.inr (Or.inl rfl), v, a, rfl, rz_cf.rf, hci⟩
  refine ev_ps 1 rfl (ev_if (cd := .lt) rfl (fun h3 => ?_) (fun h3 => ?_))
  · exact ev_thr rfl ⟨Nat.le_of_ble_eq_true rfl, Nat.le_of_ble_eq_true rfl⟩ ⟨Or.inr (Or.inl rfl), v, a, rfl, rz_cf.rf, hci⟩
  refine ev_ps 2 rfl (ev_ic (cd := .le) rfl (fun h4 => ?_) (fun h4 => ?_))
  rotate_left
  · exact ev_thr rfl ⟨Nat.le_of_ble_eq_true rfl, Nat.le_of_ble_eq_true rfl⟩ ⟨Or.inr (Or.inl rfl), v, a, rfl, rz_cf.rf, hci⟩
  refine ev_ps 1 rfl (ev_if (cd := .lt) rfl (fun h5 => ?_) (fun h5 => ?_))
  · exact ev_thr rfl ⟨Nat.le_of_ble_eq_true rfl, Nat.le_of_ble_eq_true rfl⟩ ⟨Or.inr (Or.inl rfl), v, a, rfl, rz_cf.rf, hci⟩
  refine ev_ps 2 rfl (ev_ic (cd := .le) rfl (fun h6 => ?_) (fun h6 => ?_))
  rotate_left
  · exact ev_thr rfl ⟨Nat.le_of_ble_eq_true rfl, Nat.le_of_ble_eq_true rfl⟩ ⟨Or.inr (Or.inl rfl), v, a, rfl, rz_cf.rf, hci⟩
  obtain ⟨k, hk, hv⟩ := hci.1
  refine ev_ps 4 rfl (ev_call (av := [_, _, _]) rfl rfl rfl rfl ⟨Nat.le_of_ble_eq_true rfl, rfl⟩ ⟨Nat.le_of_ble_eq_true rfl, Nat.le_of_ble_eq_true rfl⟩ (c_hasAll _ _) ?_)
  rintro _ _ ⟨⟨u1, hu1, hP1, rfl⟩, rfl⟩
  refine ev_if (cd := .eq) rfl (fun h7 => ?_) (fun h7 => ?_)
  · exact ev_thr rfl ⟨Nat.le_of_ble_eq_true rfl, Nat.le_of_ble_eq_true rfl⟩ ⟨Or.inr (Or.inr (Or.inl rfl)), v, a, rfl, rz_cf.rf, hci⟩
  have o1 := rz_okr_of hv hk (rc_lt_f h1) (rc_gt_f h2) (hP1 (hu1.resolve_left (rc_eq_f h7)))
  refine ev_ps 4 rfl (ev_call (av := [_, _, _]) rfl rfl rfl rfl ⟨Nat.le_of_ble_eq_true rfl, rfl⟩ ⟨Nat.le_of_ble_eq_true rfl, Nat.le_of_ble_eq_true rfl⟩ (c_hasAll _ _) ?_)
  rintro _ _ ⟨⟨u2, hu2, hP2, rfl⟩, rfl⟩
  refine ev_if (cd := .ne) rfl (fun h8 => ?_) (fun h8 => ?_)
  rotate_left
  · exact ev_thr rfl ⟨Nat.le_of_ble_eq_true rfl, Nat.le_of_ble_eq_true rfl⟩ ⟨Or.inr (Or.inr (Or.inl rfl)), v, a, rfl, rz_cf.rf, hci⟩
  have o2 := rz_okr_of hv hk (rc_lt_f h3) (Int32.not_lt.mpr (rc_le_t h4)) (hP2 (hu2.resolve_left (rc_ne_t h8)))
  refine ev_ps 4 rfl (ev_call (av := [_, _, _]) rfl rfl rfl rfl ⟨Nat.le_of_ble_eq_true rfl, rfl⟩ ⟨Nat.le_of_ble_eq_true rfl, Nat.le_of_ble_eq_true rfl⟩ (c_allPlainX o1) ?_)
  rintro _ _ ⟨⟨u3, hu3, -, rfl⟩, rfl⟩
  refine ev_if (cd := .eq) rfl (fun h9 => ?_) (fun h9 => ?_)
  · exact ev_thr rfl ⟨Nat.le_of_ble_eq_true rfl, Nat.le_of_ble_eq_true rfl⟩ ⟨Or.inr (Or.inr (Or.inr rfl)), v, a, rfl, rz_cf.rf, hci⟩
  refine ev_ps 4 rfl (ev_call (av := [_, _, _]) rfl rfl rfl rfl ⟨Nat.le_of_ble_eq_true rfl, rfl⟩ ⟨Nat.le_of_ble_eq_true rfl, Nat.le_of_ble_eq_true rfl⟩ (c_allPlainX o2) ?_)
  rintro _ _ ⟨⟨u4, hu4, -, rfl⟩, rfl⟩
  refine ev_if (cd := .ne) rfl (fun h10 => ?_) (fun h10 => ?_)
  rotate_left
  · exact ev_thr rfl ⟨Nat.le_of_ble_eq_true rfl, Nat.le_of_ble_eq_true rfl⟩ ⟨Or.inr (Or.inr (Or.inr rfl)), v, a, rfl, rz_cf.rf, hci⟩
  refine ev_ps 9 rfl (ev_call (av := [_, _, _, _, _, _, _]) rfl rfl rfl rfl ⟨Nat.le_of_ble_eq_true rfl, rfl⟩ ⟨Nat.le_of_ble_eq_true rfl, Nat.le_of_ble_eq_true rfl⟩ (c_agreeInProgram _ o1 o2) ?_)
  rintro _ _ ⟨⟨u5, hu5, rfl⟩, k1, k2, d, f1, f2, hk1, hk2, rfl⟩
  exact ev_ret rfl (show (if u5 = 0 ∨ u5 = 1 then some (some (Value.int u5)) else none) = _ from if_pos hu5) ⟨Or.inl ⟨_, rfl⟩, _, _, rfl, ((((rz_cf.rf.up (by decide) _).up (by decide) _).up (by decide) d).ua (by decide) f1).ua (by decide) f2, hci⟩
/-- what one of the law's own methods leaves -/
def rz_hp (v : Nat → Int32) (a : Nat → Nat → Int32) : rz_R → rz_W → Prop := fun q w' => (∃ u, q = .inl (some (.int u))) ∧ ∃ v' a' g', w' = rz_w v' a' g' ∧ rz_cf v a v' a' ∧ rz_ci v'
theorem l_add (hci : rz_ci v) (x0 x1 x2 x3 : Int32) : rz_C xs xl 104 [.ref 0, .int x0, .int x1, .int x2, .int x3, .ref 35] (rz_w v a g) (rz_hp v a) := by
  refine ev_ps 7 rfl (ev_call (av := [_, _, _, _, _]) rfl rfl rfl rfl ⟨Nat.le_of_ble_eq_true rfl, rfl⟩ ⟨Nat.le_of_ble_eq_true rfl, Nat.le_of_ble_eq_true rfl⟩ (p_add hci _ _ _ _) ?_)
  rintro _ _ ⟨⟨u, rfl⟩ | rfl | rfl, v2, a2, rfl, h1, h2⟩
  · exact ev_ps 4 rfl (ev_ret rfl rfl ⟨⟨_, rfl⟩, _, _, _, rfl, h1, h2⟩)
  · exact ⟨19, 6, rfl, ev_ps 1 rfl (ev_ret rfl rfl ⟨⟨_, rfl⟩, _, _, _, rfl, h1, h2⟩)⟩
  · exact ⟨23, 6, rfl, ev_ps 1 rfl (ev_ret rfl rfl ⟨⟨_, rfl⟩, _, _, _, rfl, h1, h2⟩)⟩
theorem l_replace (hci : rz_ci v) (x0 x1 x2 x3 x4 : Int32) : rz_C xs xl 105 [.ref 0, .int x0, .int x1, .int x2, .int x3, .int x4] (rz_w v a g) (rz_hp v a) := by
  refine ev_ps 6 rfl (ev_call (av := [_, _, _, _, _, _]) rfl rfl rfl rfl ⟨Nat.le_of_ble_eq_true rfl, rfl⟩ ⟨Nat.le_of_ble_eq_true rfl, Nat.le_of_ble_eq_true rfl⟩ (p_replace hci _ _ _ _ _) ?_)
  rintro _ _ ⟨rfl | rfl | rfl, v2, a2, rfl, h1, h2⟩
  · exact ev_ps 2 rfl (ev_ret rfl rfl ⟨⟨_, rfl⟩, _, _, _, rfl, h1, h2⟩)
  · exact ⟨16, 6, rfl, ev_ps 1 rfl (ev_ret rfl rfl ⟨⟨_, rfl⟩, _, _, _, rfl, h1, h2⟩)⟩
  · exact ⟨20, 6, rfl, ev_ps 1 rfl (ev_ret rfl rfl ⟨⟨_, rfl⟩, _, _, _, rfl, h1, h2⟩)⟩
theorem l_instruction (hci : rz_ci v) (x0 x1 : Int32) : rz_C xs xl 106 [.ref 0, .int x0, .int x1, .ref 35] (rz_w v a g) (rz_hp v a) := by
  refine ev_ps 5 rfl (ev_call (av := [_, _, _]) rfl rfl rfl rfl ⟨Nat.le_of_ble_eq_true rfl, rfl⟩ ⟨Nat.le_of_ble_eq_true rfl, Nat.le_of_ble_eq_true rfl⟩ (p_instruction hci _ _) ?_)
  rintro _ _ ⟨⟨u, rfl⟩ | rfl | rfl, v2, a2, rfl, h1, h2⟩
  · exact ev_ps 4 rfl (ev_ret rfl rfl ⟨⟨_, rfl⟩, _, _, _, rfl, h1, h2⟩)
  · exact ⟨15, 4, rfl, ev_ps 1 rfl (ev_ret rfl rfl ⟨⟨_, rfl⟩, _, _, _, rfl, h1, h2⟩)⟩
  · exact ⟨19, 4, rfl, ev_ps 1 rfl (ev_ret rfl rfl ⟨⟨_, rfl⟩, _, _, _, rfl, h1, h2⟩)⟩
theorem l_run (hci : rz_ci v) (x0 : Int32) : rz_C xs xl 108 [.ref 0, .int x0, .ref 35] (rz_w v a g) (rz_hp v a) := by
  refine ev_ps 4 rfl (ev_call (av := [_, _]) rfl rfl rfl rfl ⟨Nat.le_of_ble_eq_true rfl, rfl⟩ ⟨Nat.le_of_ble_eq_true rfl, Nat.le_of_ble_eq_true rfl⟩ (p_run hci _) ?_)
  rintro _ _ ⟨⟨u, rfl⟩ | rfl, v2, a2, rfl, h1, h2⟩
  · exact ev_ps 4 rfl (ev_ret rfl rfl ⟨⟨_, rfl⟩, _, _, _, rfl, h1, h2⟩)
  · exact ⟨13, 3, rfl, ev_ps 1 rfl (ev_ret rfl rfl ⟨⟨_, rfl⟩, _, _, _, rfl, h1, h2⟩)⟩
theorem l_live (hci : rz_ci v) (x0 : Int32) : rz_C xs xl 109 [.ref 0, .int x0, .ref 35] (rz_w v a g) (rz_hp v a) := by
  refine ev_ps 4 rfl (ev_call (av := [_, _]) rfl rfl rfl rfl ⟨Nat.le_of_ble_eq_true rfl, rfl⟩ ⟨Nat.le_of_ble_eq_true rfl, Nat.le_of_ble_eq_true rfl⟩ (p_live hci _) ?_)
  rintro _ _ ⟨⟨u, rfl⟩ | rfl, v2, a2, rfl, h1, h2⟩
  · exact ev_ps 4 rfl (ev_ret rfl rfl ⟨⟨_, rfl⟩, _, _, _, rfl, h1, h2⟩)
  · exact ⟨13, 3, rfl, ev_ps 1 rfl (ev_ret rfl rfl ⟨⟨_, rfl⟩, _, _, _, rfl, h1, h2⟩)⟩
theorem l_block (hci : rz_ci v) (x0 : Int32) : rz_C xs xl 110 [.ref 0, .int x0, .ref 35] (rz_w v a g) (rz_hp v a) := by
  refine ev_ps 4 rfl (ev_call (av := [_, _]) rfl rfl rfl rfl ⟨Nat.le_of_ble_eq_true rfl, rfl⟩ ⟨Nat.le_of_ble_eq_true rfl, Nat.le_of_ble_eq_true rfl⟩ (p_block hci _) ?_)
  rintro _ _ ⟨⟨u, rfl⟩ | rfl, v2, a2, rfl, h1, h2⟩
  · exact ev_ps 4 rfl (ev_ret rfl rfl ⟨⟨_, rfl⟩, _, _, _, rfl, h1, h2⟩)
  · exact ⟨13, 3, rfl, ev_ps 1 rfl (ev_ret rfl rfl ⟨⟨_, rfl⟩, _, _, _, rfl, h1, h2⟩)⟩
theorem l_same (hci : rz_ci v) (x0 x1 x2 x3 x4 : Int32) : rz_C xs xl 111 [.ref 0, .int x0, .int x1, .int x2, .int x3, .int x4, .ref 35] (rz_w v a g) (rz_hp v a) := by
  refine ev_ps 8 rfl (ev_call (av := [_, _, _, _, _, _]) rfl rfl rfl rfl ⟨Nat.le_of_ble_eq_true rfl, rfl⟩ ⟨Nat.le_of_ble_eq_true rfl, Nat.le_of_ble_eq_true rfl⟩ (p_same hci _ _ _ _ _) ?_)
  rintro _ _ ⟨⟨u, rfl⟩ | rfl | rfl | rfl, v2, a2, rfl, h1, h2⟩
  · refine ev_if (cd := .eq) rfl (fun h => ?_) (fun h => ?_)
    · exact ev_ps 4 rfl (ev_ret rfl rfl ⟨⟨_, rfl⟩, _, _, _, rfl, h1, h2⟩)
    · exact ev_ps 5 rfl (ev_ret rfl rfl ⟨⟨_, rfl⟩, _, _, _, rfl, h1, h2⟩)
  · exact ⟨28, 7, rfl, ev_ps 1 rfl (ev_ret rfl rfl ⟨⟨_, rfl⟩, _, _, _, rfl, h1, h2⟩)⟩
  · exact ⟨32, 7, rfl, ev_ps 1 rfl (ev_ret rfl rfl ⟨⟨_, rfl⟩, _, _, _, rfl, h1, h2⟩)⟩
  · exact ⟨36, 7, rfl, ev_ps 1 rfl (ev_ret rfl rfl ⟨⟨_, rfl⟩, _, _, _, rfl, h1, h2⟩)⟩
theorem l_start (hci : rz_ci v) (x y : Int32) : rz_C xs xl 107 [.ref 0, .int x, .int y] (rz_w v a g) (fun q w' => ((q = .inl (some (.int 0)) ∧ rz_sok x y) ∨ (q = .inl (some (.int 1)) ∧ ¬ rz_sok x y)) ∧ ∃ v' a' g', w' = rz_w v' a' g' ∧ rz_cf v a v' a' ∧ rz_ci v') := by
  refine ev_ps 3 rfl (ev_call (av := [_, _, _]) rfl rfl rfl rfl ⟨Nat.le_of_ble_eq_true rfl, rfl⟩ ⟨Nat.le_of_ble_eq_true rfl, Nat.le_of_ble_eq_true rfl⟩ (p_start hci _ _) ?_)
  rintro _ _ ⟨⟨rfl, hs⟩ | ⟨rfl, hs⟩, v2, a2, rfl, h1, h2⟩
  · exact ev_ps 2 rfl (ev_ret rfl rfl ⟨Or.inl ⟨rfl, hs⟩, _, _, _, rfl, h1, h2⟩)
  · exact ⟨10, 3, rfl, ev_ps 1 rfl (ev_ret rfl rfl ⟨Or.inr ⟨rfl, hs⟩, _, _, _, rfl, h1, h2⟩)⟩
end RZP6
/-! the reference (place 25): its small methods -/
section RZM1
variable {xs : Nat → Int32} {xl : Nat} {v : Nat → Int32} {a : Nat → Nat → Int32} {g : Nat → Int64} {w : rz_W}
/-- a row of the reference's program -/
def rz_LI (o d s t : Int32) : Prop := ∃ o' d' s' t' : Nat, o = Int32.ofNat o' ∧ d = Int32.ofNat d' ∧ s = Int32.ofNat s' ∧ t = Int32.ofNat t' ∧ o' ≤ 15 ∧ d' ≤ 3 ∧ s' ≤ 3 ∧ t' ≤ 24 ∧ (o' ≤ 5 → t' ≤ 3)
def rz_li (a : Nat → Nat → Int32) (k : Nat) : Prop := rz_LI (a 20 k) (a 21 k) (a 22 k) (a 23 k)
def rz_sm (f : Nat → Int32) (n : Nat) : Prop := ∀ k, k < n → ∃ j : Nat, j ≤ 15 ∧ f k = Int32.ofNat j
/-- the reference's part of the world in order -/
def rz_mi (v : Nat → Int32) (a : Nat → Nat → Int32) : Prop := (∃ n : Nat, n ≤ 24 ∧ v 21 = Int32.ofNat n ∧ ∀ k, k < n → rz_li a k) ∧ rz_li a 24 ∧ rz_sm (a 24) 12 ∧ rz_sm (a 25) 12
def rz_mf (v : Nat → Int32) (a : Nat → Nat → Int32) (v' : Nat → Int32) (a' : Nat → Nat → Int32) : Prop := (∀ k, k < 20 → v' k = v k) ∧ ∀ k, k < 20 → a' k = a k
theorem rz_mf.rf : rz_mf v a v a := ⟨fun _ _ => rfl, fun _ _ => rfl⟩
theorem rz_mf.up {v' : Nat → Int32} {a' : Nat → Nat → Int32} (h : rz_mf v a v' a') {k : Nat} (hk : 20 ≤ k) (x : Int32) : rz_mf v a (rz_up v' k x) a' :=
  ⟨fun j hj => (if_neg (by omega)).trans (h.1 j hj), h.2⟩
theorem rz_mf.ua {v' : Nat → Int32} {a' : Nat → Nat → Int32} (h : rz_mf v a v' a') {k : Nat} (hk : 20 ≤ k) (f : Nat → Int32) : rz_mf v a v' (rz_ua a' k f) :=
  ⟨h.1, fun j hj => (if_neg (by omega)).trans (h.2 j hj)⟩
theorem rz_mf.tr {v1 v2 : Nat → Int32} {a1 a2 : Nat → Nat → Int32} (h : rz_mf v a v1 a1) (h2 : rz_mf v1 a1 v2 a2) : rz_mf v a v2 a2 :=
  ⟨fun j hj => (h2.1 j hj).trans (h.1 j hj), fun j hj => (h2.2 j hj).trans (h.2 j hj)⟩
def rz_mp (v : Nat → Int32) (a : Nat → Nat → Int32) (g : Nat → Int64) (P : rz_R → Prop) : rz_R → rz_W → Prop := fun q w' => P q ∧ ∃ v' a', w' = rz_w v' a' g ∧ rz_mf v a v' a' ∧ rz_mi v' a'
theorem m_in (x l h : Int32) : rz_C xs xl 73 [.int x, .int l, .int h] w (fun q w' => (∃ u : Int32, ((u = 1 ∧ ¬ x < l ∧ ¬ h < x) ∨ (u = 0 ∧ ¬ (¬ x < l ∧ ¬ h < x))) ∧ q = .inl (some (.int u))) ∧ w' = w) := by
  refine ev_ps 2 rfl (ev_ic (cd := .lt) rfl (fun h1 => ?_) (fun h1 => ?_))
  · exact ev_ps 1 rfl (ev_ret rfl rfl ⟨⟨0, Or.inr ⟨rfl, fun q => q.1 (rc_lt_t h1)⟩, rfl⟩, rfl⟩)
  · refine ev_ps 2 rfl (ev_ic (cd := .gt) rfl (fun h2 => ?_) (fun h2 => ?_))
    · exact ev_ps 1 rfl (ev_ret rfl rfl ⟨⟨0, Or.inr ⟨rfl, fun q => q.2 (rc_gt_t h2)⟩, rfl⟩, rfl⟩)
    · exact ev_ps 2 rfl (ev_ret rfl rfl ⟨⟨1, Or.inl ⟨rfl, rc_lt_f h1, rc_gt_f h2⟩, rfl⟩, rfl⟩)
def rz_bit (r : Int32) : Int32 := if r = 0 then 0 else 1 <<< (r &&& 31)
theorem m_bit (r : Int32) : rz_C xs xl 88 [.int r] w (fun q w' => q = .inl (some (.int (rz_bit r))) ∧ w' = w) := by
  refine ev_ps 1 rfl (ev_if (cd := .ne) rfl (fun h => ?_) (fun h => ?_))
  · exact ev_ps 3 rfl (ev_ret rfl rfl ⟨by rw [rz_bit, if_neg (rc_ne_t h)]; rfl, rfl⟩)
  · exact ev_ps 2 rfl (ev_ret rfl rfl ⟨by rw [rz_bit, if_pos (rc_ne_f h)]; rfl, rfl⟩)
theorem m_thrown : rz_C xs xl 70 [.ref 25] (rz_w v a g) (fun q w' => q = .inl (some (.int (v 20))) ∧ w' = rz_w v a g) :=
  ev_ps 2 rfl (ev_ret rfl rfl ⟨rfl, rfl⟩)
theorem m_made (x y z : Int32) : rz_C xs xl 83 [.int x, .int y, .int z] w (fun q w' => (∃ j : Nat, j ≤ 15 ∧ q = .inl (some (.int (Int32.ofNat j)))) ∧ w' = w) := by
  have fin : ∀ t : Int32, rz_E xs xl 83 93 [some (.int x), some (.int y), some (.int z), none] [.int t] w 0 0 (fun q w' => (∃ j : Nat, j ≤ 15 ∧ q = .inl (some (.int (Int32.ofNat j)))) ∧ w' = w) := by
    intro t
    obtain ⟨j, hj, e⟩ := rz_mask t 15 (by decide)
    exact ev_ps 4 rfl (ev_ret rfl rfl ⟨⟨j, hj, by rw [← e]; rfl⟩, rfl⟩)
  refine ev_ps 1 rfl (ev_if (cd := .eq) rfl (fun h1 => ?_) (fun h1 => ?_))
  · refine ev_ps 4 rfl ?_
    exact fin _
  · refine ev_ps 2 rfl (ev_ic (cd := .ne) rfl (fun h2 => ?_) (fun h2 => ?_))
    · refine ev_ps 2 rfl (ev_ic (cd := .ne) rfl (fun h3 => ?_) (fun h3 => ?_))
      · refine ev_ps 2 rfl (ev_ic (cd := .eq) rfl (fun h4 => ?_) (fun h4 => ?_))
        · refine ev_ps 4 rfl ?_
          exact fin _
        · refine ev_ps 2 rfl (ev_ic (cd := .ne) rfl (fun h5 => ?_) (fun h5 => ?_))
          · refine ev_ps 2 rfl (ev_ic (cd := .ne) rfl (fun h6 => ?_) (fun h6 => ?_))
            · refine ev_ps 2 rfl (ev_ic (cd := .eq) rfl (fun h7 => ?_) (fun h7 => ?_))
              · refine ev_ps 4 rfl ?_
                exact fin _
              · refine ev_ps 2 rfl (ev_ic (cd := .ne) rfl (fun h8 => ?_) (fun h8 => ?_))
                · refine ev_ps 2 rfl (ev_ic (cd := .ne) rfl (fun h9 => ?_) (fun h9 => ?_))
                  · refine ev_ps 3 rfl ?_
                    exact fin _
                  · refine ev_ps 2 rfl (ev_ic (cd := .ge) rfl (fun h10 => ?_) (fun h10 => ?_))
                    · refine ev_ps 2 rfl ?_
                      exact fin _
                    · refine ev_ps 2 rfl ?_
                      exact fin _
                · refine ev_ps 4 rfl ?_
                  exact fin _
            · refine ev_ps 4 rfl ?_
              exact fin _
          · refine ev_ps 4 rfl ?_
            exact fin _
      · refine ev_ps 4 rfl ?_
        exact fin _
    · refine ev_ps 4 rfl ?_
      exact fin _
/-- the four arrays with a row put in -/
def rz_pt (a : Nat → Nat → Int32) (k : Nat) (o d s t : Int32) : Nat → Nat → Int32 := rz_ua (rz_ua (rz_ua (rz_ua a 20 (upd (a 20) k o)) 21 (upd (a 21) k d)) 22 (upd (a 22) k s)) 23 (upd (a 23) k t)
theorem rz_pt_li {k j : Nat} {o d s t : Int32} (h : j = k → rz_LI o d s t) (h2 : j ≠ k → rz_li a j) : rz_li (rz_pt a k o d s t) j := by
  show rz_LI (upd (a 20) k o j) (upd (a 21) k d j) (upd (a 22) k s j) (upd (a 23) k t j)
  by_cases hj : j = k
  · simp only [upd, hj, if_true]
    exact h hj
  · simp only [upd, hj, if_false]
    exact h2 hj
theorem rz_pt_mf {v' : Nat → Int32} {a' : Nat → Nat → Int32} {k : Nat} {o d s t : Int32} (h : rz_mf v a v' a') : rz_mf v a v' (rz_pt a' k o d s t) :=
  (((h.ua (by omega) _).ua (by omega) _).ua (by omega) _).ua (by omega) _
theorem m_put {k : Nat} (hk : k < 25) (x y z u : Int32) : rz_C xs xl 74 [.ref 25, .int (Int32.ofNat k), .int x, .int y, .int z, .int u] (rz_w v a g) (fun q w' => q = .inl none ∧ w' = rz_w v (rz_pt a k x y z u) g) := by
  have e := rz_clamp (k := k) (by omega)
  refine ev_ps 4 rfl (ev_ast rfl rfl (rz_in hk (by decide)) ?_)
  refine ev_w (w2 := rz_w v (rz_ua a 20 (upd (a 20) k x)) g) (by rw [e]; rfl) ?_
  refine ev_ps 4 rfl (ev_ast rfl rfl (rz_in hk (by decide)) ?_)
  refine ev_w (w2 := rz_w v (rz_ua (rz_ua a 20 (upd (a 20) k x)) 21 (upd (a 21) k y)) g) (by rw [e]; rfl) ?_
  refine ev_ps 4 rfl (ev_ast rfl rfl (rz_in hk (by decide)) ?_)
  refine ev_w (w2 := rz_w v (rz_ua (rz_ua (rz_ua a 20 (upd (a 20) k x)) 21 (upd (a 21) k y)) 22 (upd (a 22) k z)) g) (by rw [e]; rfl) ?_
  refine ev_ps 4 rfl (ev_ast rfl rfl (rz_in hk (by decide)) ?_)
  exact ev_ret rfl rfl ⟨rfl, by rw [e]; rfl⟩
theorem rz_le_nat {x : Int32} {b : Nat} (hb : b < 2 ^ 31) (h0 : ¬ x < 0) (h1 : ¬ Int32.ofNat b < x) : ∃ k : Nat, k ≤ b ∧ x = Int32.ofNat k := by
  obtain ⟨k, hk, rfl⟩ := rz_nat h0
  exact ⟨k, Nat.not_lt.mp fun q => h1 ((rz_lt_iff hb hk).mpr q), rfl⟩
theorem m_isInstruction (x y z u : Int32) : rz_C xs xl 72 [.int x, .int y, .int z, .int u] w (rz_bo w (rz_LI x y z u)) := by
  have no : rz_E xs xl 72 28 [some (.int x), some (.int y), some (.int z), some (.int u), none] [] w 0 0 (rz_bo w (rz_LI x y z u)) := ev_ps 1 rfl (ev_ret rfl rfl rz_bo0)
  have no2 : ∀ t, rz_E xs xl 72 103 [some (.int x), some (.int y), some (.int z), some (.int u), t] [] w 0 0 (rz_bo w (rz_LI x y z u)) := fun t => ev_ps 1 rfl (ev_ret rfl rfl rz_bo0)
  refine ev_ps 3 rfl (ev_call (av := [_, _, _]) rfl rfl rfl rfl ⟨Nat.le_of_ble_eq_true rfl, rfl⟩ ⟨Nat.le_of_ble_eq_true rfl, Nat.le_of_ble_eq_true rfl⟩ (m_in _ _ _) ?_)
  rintro _ w ⟨⟨u1, h1, rfl⟩, rfl⟩
  refine ev_if (cd := .eq) rfl (fun e => no) (fun e1 => ?_)
  obtain ⟨-, x0, x1⟩ := h1.resolve_right (fun q => rc_eq_f e1 q.1)
  refine ev_ps 3 rfl (ev_call (av := [_, _, _]) rfl rfl rfl rfl ⟨Nat.le_of_ble_eq_true rfl, rfl⟩ ⟨Nat.le_of_ble_eq_true rfl, Nat.le_of_ble_eq_true rfl⟩ (m_in _ _ _) ?_)
  rintro _ w ⟨⟨u2, h2, rfl⟩, rfl⟩
  refine ev_if (cd := .eq) rfl (fun e => no) (fun e2 => ?_)
  obtain ⟨-, y0, y1⟩ := h2.resolve_right (fun q => rc_eq_f e2 q.1)
  refine ev_ps 3 rfl (ev_call (av := [_, _, _]) rfl rfl rfl rfl ⟨Nat.le_of_ble_eq_true rfl, rfl⟩ ⟨Nat.le_of_ble_eq_true rfl, Nat.le_of_ble_eq_true rfl⟩ (m_in _ _ _) ?_)
  rintro _ w ⟨⟨u3, h3, rfl⟩, rfl⟩
  refine ev_if (cd := .ne) rfl (fun e3 => ?_) (fun e => no)
  obtain ⟨-, z0, z1⟩ := h3.resolve_right (fun q => rc_ne_t e3 q.1)
  obtain ⟨o', ho, rfl⟩ := rz_le_nat (b := 15) (by decide) x0 x1
  obtain ⟨d', hd, rfl⟩ := rz_le_nat (b := 3) (by decide) y0 y1
  obtain ⟨s', hs, rfl⟩ := rz_le_nat (b := 3) (by decide) z0 z1
  have main : ∀ b : Nat, b ≤ 24 → (o' ≤ 5 → b ≤ 3) → rz_E xs xl 72 73 [some (.int (Int32.ofNat o')), some (.int (Int32.ofNat d')), some (.int (Int32.ofNat s')), some (.int u), none] [.int (Int32.ofNat b)] w 0 0 (rz_bo w (rz_LI (Int32.ofNat o') (Int32.ofNat d') (Int32.ofNat s') u)) := by
    intro b hb hb3
    refine ev_ps 4 rfl (ev_call (av := [_, _, _]) rfl rfl rfl rfl ⟨Nat.le_of_ble_eq_true rfl, rfl⟩ ⟨Nat.le_of_ble_eq_true rfl, Nat.le_of_ble_eq_true rfl⟩ (m_in _ _ _) ?_)
    rintro _ _ ⟨⟨u4, h4, rfl⟩, rfl⟩
    refine ev_if (cd := .eq) rfl (fun e => no2 _) (fun e4 => ?_)
    obtain ⟨-, t0, t1⟩ := h4.resolve_right (fun q => rc_eq_f e4 q.1)
    obtain ⟨t', ht, rfl⟩ := rz_le_nat (b := b) (by omega) t0 t1
    have hLI : rz_LI (Int32.ofNat o') (Int32.ofNat d') (Int32.ofNat s') (Int32.ofNat t') := ⟨o', d', s', t', rfl, rfl, rfl, rfl, ho, hd, hs, by omega, fun h => by have := hb3 h; omega⟩
    refine ev_ps 2 rfl (ev_ic (cd := .lt) rfl (fun e => ?_) (fun e => ?_))
    · exact ev_ps 2 rfl (ev_ret rfl rfl (rz_bo1 hLI))
    · refine ev_ps 1 rfl (ev_if (cd := .ne) rfl (fun e => no2 _) (fun e => ?_))
      refine ev_ps 1 rfl (ev_if (cd := .ne) rfl (fun e => no2 _) (fun e => ?_))
      exact ev_ps 2 rfl (ev_ret rfl rfl (rz_bo1 hLI))
  refine ev_ps 2 rfl (ev_ic (cd := .gt) rfl (fun e5 => ?_) (fun e5 => ?_))
  · have h5 : 5 < o' := rn_gt_t (k := 5) (by omega) (by omega) e5
    refine ev_ps 2 rfl (ev_ic (cd := .gt) rfl (fun e => ?_) (fun e => ?_))
    · refine ev_ps 2 rfl (ev_ic (cd := .gt) rfl (fun e => ?_) (fun e => ?_))
      · refine ev_ps 2 rfl (ev_ic (cd := .gt) rfl (fun e => ?_) (fun e => ?_))
        · exact ev_ps 1 rfl (main 0 (by omega) (by omega))
        · exact ev_ps 2 rfl (main 24 (by omega) (by omega))
      · exact ev_ps 2 rfl (main 7 (by omega) (by omega))
    · exact ev_ps 2 rfl (main 15 (by omega) (by omega))
  · exact ev_ps 2 rfl (main 3 (by omega) (by omega))
theorem m_clear (hmi : rz_mi v a) : rz_C xs xl 76 [.ref 25] (rz_w v a g) (rz_mp v a g rz_pi) := by
  refine ev_ps 3 rfl (ev_w (w2 := rz_w (rz_up v 20 0) a g) rfl ?_)
  refine ev_ps 6 rfl (ev_w (w2 := rz_w (rz_up (rz_up v 20 0) 21 0) a g) rfl ?_)
  exact ev_ps 1 rfl (ev_ret rfl rfl ⟨⟨_, rfl⟩, _, _, rfl, (rz_mf.rf.up (by omega) _).up (by omega) _, ⟨0, by omega, rfl, fun k hk => absurd hk (by omega)⟩, hmi.2⟩)
theorem m_size (hmi : rz_mi v a) : rz_C xs xl 77 [.ref 25] (rz_w v a g) (rz_mp v a g rz_pi) := by
  refine ev_ps 3 rfl (ev_w (w2 := rz_w (rz_up v 20 0) a g) rfl ?_)
  exact ev_ps 2 rfl (ev_ret rfl rfl ⟨⟨_, rfl⟩, _, _, rfl, rz_mf.rf.up (by omega) _, hmi⟩)
theorem m_count (hmi : rz_mi v a) (x : Int32) : rz_C xs xl 103 [.ref 25, .int x] (rz_w v a g) (rz_mp v a g rz_pi) := by
  refine ev_ps 3 rfl (ev_w (w2 := rz_w (rz_up v 20 0) a g) rfl ?_)
  refine ev_ps 1 rfl (ev_if (cd := .ne) rfl (fun h1 => ?_) (fun h1 => ?_))
  · refine ev_ps 2 rfl (ev_ic (cd := .ne) rfl (fun h2 => ?_) (fun h2 => ?_))
    · refine ev_ps 2 rfl (ev_ic (cd := .ne) rfl (fun h3 => ?_) (fun h3 => ?_))
      · exact ev_ps 1 rfl (ev_ret rfl rfl ⟨⟨_, rfl⟩, _, _, rfl, rz_mf.rf.up (by omega) _, hmi⟩)
      · exact ev_ps 3 rfl (ev_ret rfl rfl ⟨⟨_, rfl⟩, _, _, rfl, rz_mf.rf.up (by omega) _, hmi⟩)
    · exact ev_ps 3 rfl (ev_ret rfl rfl ⟨⟨_, rfl⟩, _, _, rfl, rz_mf.rf.up (by omega) _, hmi⟩)
  · exact ev_ps 3 rfl (ev_ret rfl rfl ⟨⟨_, rfl⟩, _, _, rfl, rz_mf.rf.up (by omega) _, hmi⟩)
theorem m_result (hmi : rz_mi v a) (x : Int32) : rz_C xs xl 84 [.ref 25, .int x] (rz_w v a g) (rz_mp v a g rz_pi) := by
  refine ev_ps 3 rfl (ev_w (w2 := rz_w (rz_up v 20 0) a g) rfl ?_)
  refine ev_ps 2 rfl (ev_ic (cd := .ne) rfl (fun h => ?_) (fun h => ?_))
  · refine ev_ps 2 rfl (ev_ic (cd := .ne) rfl (fun h => ?_) (fun h => ?_))
    · refine ev_ps 3 rfl (ev_call (av := [_, _, _]) rfl rfl rfl rfl ⟨Nat.le_of_ble_eq_true rfl, rfl⟩ ⟨Nat.le_of_ble_eq_true rfl, Nat.le_of_ble_eq_true rfl⟩ (m_in _ _ _) ?_)
      rintro _ _ ⟨⟨u1, h1, rfl⟩, rfl⟩
      refine ev_if (cd := .eq) rfl (fun e => ?_) (fun e1 => ?_)
      · exact ev_ps 1 rfl (ev_ret rfl rfl ⟨⟨_, rfl⟩, _, _, rfl, rz_mf.rf.up (by omega) _, hmi⟩)
      · obtain ⟨-, x0, x1⟩ := h1.resolve_right (fun q => rc_eq_f e1 q.1)
        obtain ⟨k, hk, rfl⟩ := rz_le_nat (b := 11) (by decide) x0 x1
        refine ev_ps 3 rfl (ev_ald rfl rfl (rz_in (by omega) (by decide)) ?_)
        exact ev_ps 1 rfl (ev_ret rfl rfl ⟨⟨_, rfl⟩, _, _, rfl, rz_mf.rf.up (by omega) _, hmi⟩)
    · exact ev_ps 3 rfl (ev_ret rfl rfl ⟨⟨_, rfl⟩, _, _, rfl, rz_mf.rf.up (by omega) _, hmi⟩)
  · exact ev_ps 3 rfl (ev_ret rfl rfl ⟨⟨_, rfl⟩, _, _, rfl, rz_mf.rf.up (by omega) _, hmi⟩)
theorem m_start (hmi : rz_mi v a) (x y : Int32) : rz_C xs xl 79 [.ref 25, .int x, .int y] (rz_w v a g) (fun q w' => q = .inl none ∧ ∃ v' a', w' = rz_w v' a' g ∧ rz_mf v a v' a' ∧ rz_mi v' a' ∧ ((v' 20 = 0 ∧ rz_sok x y) ∨ (v' 20 = 1 ∧ ¬ rz_sok x y))) := by
  have no : ¬ rz_sok x y → rz_E xs xl 79 25 [some (.ref 25), some (.int x), some (.int y)] [.ref 25] (rz_w v a g) 0 0 (fun q w' => q = .inl none ∧ ∃ v' a', w' = rz_w v' a' g ∧ rz_mf v a v' a' ∧ rz_mi v' a' ∧ ((v' 20 = 0 ∧ rz_sok x y) ∨ (v' 20 = 1 ∧ ¬ rz_sok x y))) := by
    intro hno
    refine ev_ps 2 rfl (ev_w (w2 := rz_w (rz_up v 20 1) a g) rfl ?_)
    refine ev_ps 2 rfl (ev_if (cd := .ne) rfl (fun h => ?_) (fun h => absurd (rc_ne_f h) (show ¬ (1 : Int32) = 0 by decide)))
    exact ev_ret rfl rfl ⟨rfl, _, _, rfl, rz_mf.rf.up (by omega) _, hmi, Or.inr ⟨rfl, hno⟩⟩
  refine ev_ps 4 rfl (ev_call (av := [_, _, _]) rfl rfl rfl rfl ⟨Nat.le_of_ble_eq_true rfl, rfl⟩ ⟨Nat.le_of_ble_eq_true rfl, Nat.le_of_ble_eq_true rfl⟩ (m_in _ _ _) ?_)
  rintro _ _ ⟨⟨u1, h1, rfl⟩, rfl⟩
  refine ev_if (cd := .eq) rfl (fun e => no ?_) (fun e1 => ?_)
  · intro hok
    rcases h1 with ⟨q, -⟩ | ⟨-, q⟩
    · rw [rc_eq_t e] at q; exact absurd q (by decide)
    · refine q ⟨hok.1, ?_⟩
      intro q2
      have : x < 12 := hok.2.1
      obtain ⟨k, hk, rfl⟩ := rz_idx (n := 12) (by decide) (fun h => hok.1 (Int32.lt_trans h (by decide))) this
      have := (rz_lt_iff (n := 11) (by omega) (by omega)).mp q2
      omega
  obtain ⟨-, x0, x1⟩ := h1.resolve_right (fun q => rc_eq_f e1 q.1)
  refine ev_ps 3 rfl (ev_call (av := [_, _, _]) rfl rfl rfl rfl ⟨Nat.le_of_ble_eq_true rfl, rfl⟩ ⟨Nat.le_of_ble_eq_true rfl, Nat.le_of_ble_eq_true rfl⟩ (m_in _ _ _) ?_)
  rintro _ _ ⟨⟨u2, h2, rfl⟩, rfl⟩
  refine ev_if (cd := .eq) rfl (fun e => no ?_) (fun e2 => ?_)
  · intro hok
    rcases h2 with ⟨q, -⟩ | ⟨-, q⟩
    · rw [rc_eq_t e] at q; exact absurd q (by decide)
    · exact q ⟨hok.2.2.1, hok.2.2.2⟩
  obtain ⟨-, y0, y1⟩ := h2.resolve_right (fun q => rc_eq_f e2 q.1)
  obtain ⟨k, hk, rfl⟩ := rz_le_nat (b := 11) (by decide) (fun h => x0 (Int32.lt_trans h (by decide))) x1
  obtain ⟨j, hj, rfl⟩ := rz_le_nat (b := 15) (by decide) y0 y1
  have hok : rz_sok (Int32.ofNat k) (Int32.ofNat j) := ⟨x0, (rz_lt_iff (k := 12) (by omega) (by omega)).mpr (by omega), y0, y1⟩
  refine ev_ps 3 rfl (ev_w (w2 := rz_w (rz_up v 20 0) a g) rfl ?_)
  refine ev_ps 2 rfl (ev_if (cd := .ne) rfl (fun h => absurd rfl (rc_ne_t h)) (fun h => ?_))
  refine ev_ps 4 rfl (ev_ast rfl rfl (rz_in (by omega) (by decide)) ?_)
  refine ev_w (w2 := rz_w (rz_up v 20 0) (rz_ua a 24 (upd (a 24) k (Int32.ofNat j))) g) (by rw [rz_clamp (by omega)]; rfl) ?_
  refine ev_ret rfl rfl ⟨rfl, _, _, rfl, (rz_mf.rf.up (by omega) _).ua (by omega) _, ⟨hmi.1, hmi.2.1, ?_, hmi.2.2.2⟩, Or.inl ⟨rfl, hok⟩⟩
  intro i hi
  show ∃ j', j' ≤ 15 ∧ upd (a 24) k (Int32.ofNat j) i = Int32.ofNat j'
  by_cases hik : i = k
  · exact ⟨j, hj, by simp [upd, hik]⟩
  · obtain ⟨j', hj', e⟩ := hmi.2.2.1 i hi
    exact ⟨j', hj', by simp [upd, hik]; exact e⟩
theorem rz_sub1 {n : Nat} (hn : n ≤ 24) {x : Int32} (h0 : ¬ x < 0) (h1 : ¬ Int32.ofNat n - 1 < x) : ∃ k, k < n ∧ x = Int32.ofNat k := by
  rcases Nat.eq_zero_or_pos n with rfl | hn0
  · exact absurd (Int32.lt_of_lt_of_le (by decide : Int32.ofNat 0 - 1 < 0) (Int32.not_lt.mp h0)) h1
  · rw [show Int32.ofNat n - 1 = Int32.ofNat (n - 1) from rz_sub (n := 1) hn0] at h1
    obtain ⟨k, hk, rfl⟩ := rz_le_nat (by omega) h0 h1
    exact ⟨k, by omega, rfl⟩
theorem m_add (hmi : rz_mi v a) (x0 x1 x2 x3 : Int32) : rz_C xs xl 71 [.ref 25, .int x0, .int x1, .int x2, .int x3] (rz_w v a g) (rz_mp v a g rz_pi) := by
  have no : ∀ c : Int32, c ≠ 0 → rz_E xs xl 71 30 [some (.ref 25), some (.int x0), some (.int x1), some (.int x2), some (.int x3)] [.int c, .ref 25] (rz_w v a g) 0 0 (rz_mp v a g rz_pi) := by
    intro c hc
    refine ev_ps 1 rfl (ev_w (w2 := rz_w (rz_up v 20 c) a g) rfl ?_)
    refine ev_ps 2 rfl (ev_if (cd := .eq) rfl (fun h => absurd (rc_eq_t h) hc) (fun h => ?_))
    exact ev_ps 1 rfl (ev_ret rfl rfl ⟨⟨_, rfl⟩, _, _, rfl, rz_mf.rf.up (by omega) _, hmi⟩)
  refine ev_ps 5 rfl (ev_call (av := [_, _, _, _]) rfl rfl rfl rfl ⟨Nat.le_of_ble_eq_true rfl, rfl⟩ ⟨Nat.le_of_ble_eq_true rfl, Nat.le_of_ble_eq_true rfl⟩ (m_isInstruction _ _ _ _) ?_)
  rintro _ _ ⟨⟨u1, hu1, hP, rfl⟩, rfl⟩
  refine ev_if (cd := .ne) rfl (fun e1 => ?_) (fun e1 => ev_ps 2 rfl (no 1 (by decide)))
  have hLI := hP (hu1.resolve_left (rc_ne_t e1))
  refine ev_ps 3 rfl (ev_ic (cd := .ne) rfl (fun e2 => ?_) (fun e2 => ev_ps 2 rfl (no 2 (by decide))))
  obtain ⟨n, hn, hv, hrows⟩ := hmi.1
  have hn24 : n < 24 := by
    rcases Nat.lt_or_ge n 24 with h | h
    · exact h
    · exact absurd (by rw [hv]; exact congrArg Int32.ofNat (by omega : n = 24)) (rc_ne_t e2)
  refine ev_ps 2 rfl (ev_w (w2 := rz_w (rz_up v 20 0) a g) rfl ?_)
  refine ev_ps 2 rfl (ev_if (cd := .eq) rfl (fun h => ?_) (fun h => absurd rfl (rc_eq_f h)))
  refine ev_ps 7 rfl ?_
  refine ev_call (av := [.ref 25, .int (Int32.ofNat n), .int x0, .int x1, .int x2, .int x3]) rfl (by rw [← hv]; rfl) rfl rfl ⟨Nat.le_of_ble_eq_true rfl, rfl⟩ ⟨Nat.le_of_ble_eq_true rfl, Nat.le_of_ble_eq_true rfl⟩ (m_put (by omega) _ _ _ _) ?_
  rintro _ _ ⟨rfl, rfl⟩
  refine ev_ps 6 rfl (ev_w (w2 := rz_w (rz_up (rz_up v 20 0) 21 (Int32.ofNat (n + 1))) (rz_pt a n x0 x1 x2 x3) g) (by rw [← rz_succ n, ← hv]; rfl) ?_)
  refine ev_ps 4 rfl (ev_ret rfl rfl ⟨⟨_, rfl⟩, _, _, rfl, rz_pt_mf ((rz_mf.rf.up (by omega) _).up (by omega) _), ⟨n + 1, by omega, rfl, fun k hk => rz_pt_li (fun _ => hLI) (fun hne => hrows k (by omega))⟩, rz_pt_li (fun _ => hLI) (fun _ => hmi.2.1), hmi.2.2⟩)
theorem m_replace (hmi : rz_mi v a) (x0 x1 x2 x3 x4 : Int32) : rz_C xs xl 75 [.ref 25, .int x0, .int x1, .int x2, .int x3, .int x4] (rz_w v a g) (rz_mp v a g (fun q => q = .inl none)) := by
  have no : ∀ c : Int32, c ≠ 0 → rz_E xs xl 75 36 [some (.ref 25), some (.int x0), some (.int x1), some (.int x2), some (.int x3), some (.int x4)] [.int c, .ref 25] (rz_w v a g) 0 0 (rz_mp v a g (fun q => q = .inl none)) := by
    intro c hc
    refine ev_ps 1 rfl (ev_w (w2 := rz_w (rz_up v 20 c) a g) rfl ?_)
    refine ev_ps 2 rfl (ev_if (cd := .ne) rfl (fun h => ?_) (fun h => absurd (rc_ne_f h) hc))
    exact ev_ret rfl rfl ⟨rfl, _, _, rfl, rz_mf.rf.up (by omega) _, hmi⟩
  refine ev_ps 5 rfl (ev_call (av := [_, _, _, _]) rfl rfl rfl rfl ⟨Nat.le_of_ble_eq_true rfl, rfl⟩ ⟨Nat.le_of_ble_eq_true rfl, Nat.le_of_ble_eq_true rfl⟩ (m_isInstruction _ _ _ _) ?_)
  rintro _ _ ⟨⟨u1, hu1, hP, rfl⟩, rfl⟩
  refine ev_if (cd := .ne) rfl (fun e1 => ?_) (fun e1 => ev_ps 2 rfl (no 1 (by decide)))
  have hLI := hP (hu1.resolve_left (rc_ne_t e1))
  refine ev_ps 6 rfl (ev_call (av := [_, _, _]) rfl rfl rfl rfl ⟨Nat.le_of_ble_eq_true rfl, rfl⟩ ⟨Nat.le_of_ble_eq_true rfl, Nat.le_of_ble_eq_true rfl⟩ (m_in _ _ _) ?_)
  rintro _ _ ⟨⟨u2, h2, rfl⟩, rfl⟩
  refine ev_if (cd := .ne) rfl (fun e2 => ?_) (fun e2 => ev_ps 2 rfl (no 2 (by decide)))
  obtain ⟨-, y0, y1⟩ := h2.resolve_right (fun q => rc_ne_t e2 q.1)
  obtain ⟨n, hn, hv, hrows⟩ := hmi.1
  have y1' : ¬ v 21 - 1 < x0 := y1
  rw [hv] at y1'
  obtain ⟨k, hk, rfl⟩ := rz_sub1 hn y0 y1'
  refine ev_ps 2 rfl (ev_w (w2 := rz_w (rz_up v 20 0) a g) rfl ?_)
  refine ev_ps 2 rfl (ev_if (cd := .ne) rfl (fun h => absurd rfl (rc_ne_t h)) (fun h => ?_))
  refine ev_ps 6 rfl (ev_call (av := [_, _, _, _, _, _]) rfl rfl rfl rfl ⟨Nat.le_of_ble_eq_true rfl, rfl⟩ ⟨Nat.le_of_ble_eq_true rfl, Nat.le_of_ble_eq_true rfl⟩ (m_put (by omega) _ _ _ _) ?_)
  rintro _ _ ⟨rfl, rfl⟩
  exact ev_ret rfl rfl ⟨rfl, _, _, rfl, rz_pt_mf (rz_mf.rf.up (by omega) _), ⟨n, hn, hv, fun j hj => rz_pt_li (fun _ => hLI) (fun hne => hrows j hj)⟩, rz_pt_li (fun _ => hLI) (fun _ => hmi.2.1), hmi.2.2⟩
theorem m_instruction (hmi : rz_mi v a) (x0 x1 : Int32) : rz_C xs xl 78 [.ref 25, .int x0, .int x1] (rz_w v a g) (rz_mp v a g rz_pi) := by
  have no : ∀ c : Int32, c ≠ 0 → rz_E xs xl 78 33 [some (.ref 25), some (.int x0), some (.int x1)] [.int c, .ref 25] (rz_w v a g) 0 0 (rz_mp v a g rz_pi) := by
    intro c hc
    refine ev_ps 1 rfl (ev_w (w2 := rz_w (rz_up v 20 c) a g) rfl ?_)
    refine ev_ps 2 rfl (ev_if (cd := .eq) rfl (fun h => absurd (rc_eq_t h) hc) (fun h => ?_))
    exact ev_ps 1 rfl (ev_ret rfl rfl ⟨⟨_, rfl⟩, _, _, rfl, rz_mf.rf.up (by omega) _, hmi⟩)
  refine ev_ps 4 rfl (ev_call (av := [_, _, _]) rfl rfl rfl rfl ⟨Nat.le_of_ble_eq_true rfl, rfl⟩ ⟨Nat.le_of_ble_eq_true rfl, Nat.le_of_ble_eq_true rfl⟩ (m_in _ _ _) ?_)
  rintro _ _ ⟨⟨u1, h1, rfl⟩, rfl⟩
  refine ev_if (cd := .ne) rfl (fun e1 => ?_) (fun e1 => ev_ps 2 rfl (no 1 (by decide)))
  refine ev_ps 6 rfl (ev_call (av := [_, _, _]) rfl rfl rfl rfl ⟨Nat.le_of_ble_eq_true rfl, rfl⟩ ⟨Nat.le_of_ble_eq_true rfl, Nat.le_of_ble_eq_true rfl⟩ (m_in _ _ _) ?_)
  rintro _ _ ⟨⟨u2, h2, rfl⟩, rfl⟩
  refine ev_if (cd := .ne) rfl (fun e2 => ?_) (fun e2 => ev_ps 2 rfl (no 2 (by decide)))
  obtain ⟨-, y0, y1⟩ := h2.resolve_right (fun q => rc_ne_t e2 q.1)
  obtain ⟨n, hn, hv, hrows⟩ := hmi.1
  have y1' : ¬ v 21 - 1 < x0 := y1
  rw [hv] at y1'
  obtain ⟨k, hk, rfl⟩ := rz_sub1 hn y0 y1'
  refine ev_ps 2 rfl (ev_w (w2 := rz_w (rz_up v 20 0) a g) rfl ?_)
  refine ev_ps 2 rfl (ev_if (cd := .eq) rfl (fun h => ?_) (fun h => absurd rfl (rc_eq_f h)))
  refine ev_ps 1 rfl (ev_if (cd := .ne) rfl (fun h1 => ?_) (fun h1 => ?_))
  · refine ev_ps 2 rfl (ev_ic (cd := .ne) rfl (fun h2 => ?_) (fun h2 => ?_))
    · refine ev_ps 2 rfl (ev_ic (cd := .ne) rfl (fun h3 => ?_) (fun h3 => ?_))
      · refine ev_ps 3 rfl (ev_ald rfl rfl (rz_in (by omega) (by decide)) ?_)
        exact ev_ret rfl rfl ⟨⟨_, rfl⟩, _, _, rfl, rz_mf.rf.up (by omega) _, hmi⟩
      · refine ev_ps 3 rfl (ev_ald rfl rfl (rz_in (by omega) (by decide)) ?_)
        exact ev_ps 1 rfl (ev_ret rfl rfl ⟨⟨_, rfl⟩, _, _, rfl, rz_mf.rf.up (by omega) _, hmi⟩)
    · refine ev_ps 3 rfl (ev_ald rfl rfl (rz_in (by omega) (by decide)) ?_)
      exact ev_ps 1 rfl (ev_ret rfl rfl ⟨⟨_, rfl⟩, _, _, rfl, rz_mf.rf.up (by omega) _, hmi⟩)
  · refine ev_ps 3 rfl (ev_ald rfl rfl (rz_in (by omega) (by decide)) ?_)
    exact ev_ps 1 rfl (ev_ret rfl rfl ⟨⟨_, rfl⟩, _, _, rfl, rz_mf.rf.up (by omega) _, hmi⟩)
end RZM1
/-! the reference: a row done, two rows held against each other -/
section RZM2
variable {xs : Nat → Int32} {xl : Nat} {v : Nat → Int32} {a : Nat → Nat → Int32} {g : Nat → Int64}
theorem m_does {k : Nat} (hk : k < 25) (hli : rz_li a k) : rz_C xs xl 82 [.ref 25, .int (Int32.ofNat k)] (rz_w v a g) (fun q w' => q = .inl none ∧ ∃ d j : Nat, d ≤ 3 ∧ j ≤ 15 ∧ w' = rz_w v (rz_ua a 27 (upd (a 27) d (Int32.ofNat j))) g) := by
  obtain ⟨o', d', s', t', ho, hd, hs, ht, b1, b2, b3, b4, b5⟩ := hli
  have e := rz_clamp (k := k) (by omega)
  rw [← e] at ho hd hs ht
  have hin : ¬ (Int32.ofNat k < 0 ∨ 25 ≤ (Int32.ofNat k).toNatClampNeg) := rz_in hk (by decide)
  have tail : ∀ b : Int32, rz_E xs xl 82 33 [some (.ref 25), some (.int (Int32.ofNat k)), some (.int (a 20 (Int32.ofNat k).toNatClampNeg)), none, none] [.int b] (rz_w v a g) 0 0 (fun q w' => q = .inl none ∧ ∃ d j : Nat, d ≤ 3 ∧ j ≤ 15 ∧ w' = rz_w v (rz_ua a 27 (upd (a 27) d (Int32.ofNat j))) g) := by
    intro b
    refine ev_ps 7 rfl (ev_ald rfl rfl hin ?_)
    refine ev_ald rfl rfl (by rw [hs]; exact rz_in (by omega) (by decide)) ?_
    refine ev_ps 1 rfl (ev_call (av := [_, _, _]) rfl rfl rfl rfl ⟨Nat.le_of_ble_eq_true rfl, rfl⟩ ⟨Nat.le_of_ble_eq_true rfl, Nat.le_of_ble_eq_true rfl⟩ (m_made _ _ _) ?_)
    rintro _ _ ⟨⟨j, hj, rfl⟩, rfl⟩
    have fin : ∀ j : Nat, j ≤ 15 → rz_E xs xl 82 77 [some (.ref 25), some (.int (Int32.ofNat k)), some (.int (a 20 (Int32.ofNat k).toNatClampNeg)), some (.int b), some (.int (Int32.ofNat j))] [.int (Int32.ofNat j), .int (a 21 (Int32.ofNat k).toNatClampNeg), .ref 33] (rz_w v a g) 0 0 (fun q w' => q = .inl none ∧ ∃ d j : Nat, d ≤ 3 ∧ j ≤ 15 ∧ w' = rz_w v (rz_ua a 27 (upd (a 27) d (Int32.ofNat j))) g) := by
      intro j hj
      rw [hd]
      refine ev_ast rfl rfl (rz_in (by omega) (by decide)) ?_
      exact ev_ret rfl rfl ⟨rfl, d', j, b2, hj, by rw [rz_clamp (by omega)]; rfl⟩
    refine ev_ps 6 rfl (ev_ald rfl rfl hin ?_)
    refine ev_ps 3 rfl (ev_ald rfl rfl hin ?_)
    refine ev_if (cd := .ne) rfl (fun h => ?_) (fun h => ?_)
    · exact ev_ps 1 rfl (fin j hj)
    · rw [hd]
      refine ev_ps 2 rfl (ev_ast rfl rfl (rz_in (by omega) (by decide)) ?_)
      exact ev_ret rfl rfl ⟨rfl, d', 0, b2, by omega, by rw [rz_clamp (by omega)]; rfl⟩
  refine ev_ps 3 rfl (ev_ald rfl rfl hin ?_)
  refine ev_ps 3 rfl (ev_ic (cd := .ge) rfl (fun h => ?_) (fun h => ?_))
  · refine ev_ps 3 rfl (ev_ald rfl rfl hin ?_)
    exact tail _
  · rw [ho] at h
    have h6 : o' < 6 := rn_ge_f (k := 6) (by omega) (by omega) h
    refine ev_ps 5 rfl (ev_ald rfl rfl hin ?_)
    refine ev_ald rfl rfl (by rw [ht]; exact rz_in (by have := b5 (by omega); omega) (by decide)) ?_
    exact ev_ps 1 rfl (tail _)
theorem m_begin (x : Int32) : rz_C xs xl 96 [.ref 25, .int x] (rz_w v a g) (fun q w' => q = .inl none ∧ ∃ f, w' = rz_w v (rz_ua a 27 f) g) := by
  refine ev_ps 4 rfl (ev_ast rfl rfl (by decide) ?_)
  refine ev_w (w2 := rz_w v (rz_ua a 27 (upd (a 27) _ _)) g) rfl ?_
  refine ev_ps 6 rfl (ev_ast rfl rfl (by decide) ?_)
  refine ev_w (w2 := rz_w v (rz_ua a 27 (upd (upd (a 27) _ _) _ _)) g) rfl ?_
  refine ev_ps 8 rfl (ev_ast rfl rfl (by decide) ?_)
  refine ev_w (w2 := rz_w v (rz_ua a 27 (upd (upd (upd (a 27) _ _) _ _) _ _)) g) rfl ?_
  refine ev_ps 6 rfl (ev_ast rfl rfl (by decide) ?_)
  exact ev_w (w2 := rz_w v (rz_ua a 27 (upd (upd (upd (upd (a 27) _ _) _ _) _ _) _ _)) g) rfl (ev_ret rfl rfl ⟨rfl, _, rfl⟩)
theorem m_agree {p n q m : Nat} (z : Int32) (hp : p + n ≤ 25) (hq : q + m ≤ 25) (h1 : ∀ k, p ≤ k → k < p + n → rz_li a k) (h2 : ∀ k, q ≤ k → k < q + m → rz_li a k) : rz_C xs xl 95 [.ref 25, .int (Int32.ofNat p), .int (Int32.ofNat n), .int (Int32.ofNat q), .int (Int32.ofNat m), .int z] (rz_w v a g) (fun q w' => (∃ u, (u = 0 ∨ u = 1) ∧ q = .inl (some (.int u))) ∧ ∃ f1 f2, w' = rz_w v (rz_ua (rz_ua a 27 f1) 28 f2) g) := by
  have D1 : ∀ (x6 : Int32), (∀ (t7 : Option Value) (f1 f2 : Nat → Int32), rz_E xs xl 95 40 [some (.ref 25), some (.int (Int32.ofNat p)), some (.int (Int32.ofNat n)), some (.int (Int32.ofNat q)), some (.int (Int32.ofNat m)), some (.int z), some (.int x6), t7] [] (rz_w v (rz_ua (rz_ua a 27 f1) 28 f2) g) 0 0 (fun q w' => (∃ u, (u = 0 ∨ u = 1) ∧ q = .inl (some (.int u))) ∧ ∃ f1 f2, w' = rz_w v (rz_ua (rz_ua a 27 f1) 28 f2) g)) → ∀ (f1 f2 : Nat → Int32), rz_E xs xl 95 20 [some (.ref 25), some (.int (Int32.ofNat p)), some (.int (Int32.ofNat n)), some (.int (Int32.ofNat q)), some (.int (Int32.ofNat m)), some (.int z), some (.int x6), some (.int (Int32.ofNat 0))] [] (rz_w v (rz_ua (rz_ua a 27 f1) 28 f2) g) 0 0 (fun q w' => (∃ u, (u = 0 ∨ u = 1) ∧ q = .inl (some (.int u))) ∧ ∃ f1 f2, w' = rz_w v (rz_ua (rz_ua a 27 f1) 28 f2) g) := by
    intro x6 hK f1 f2
    refine ev_loop (α := Nat × (Nat → Int32) × (Nat → Int32)) (fun r => n - r.1) (fun r => r.1 ≤ n) (fun r => [some (.ref 25), some (.int (Int32.ofNat p)), some (.int (Int32.ofNat n)), some (.int (Int32.ofNat q)), some (.int (Int32.ofNat m)), some (.int z), some (.int x6), some (.int (Int32.ofNat r.1))]) (fun _ => []) (fun r => rz_w v (rz_ua (rz_ua a 27 r.2.1) 28 r.2.2) g) ?_ (0, f1, f2) (Nat.zero_le _)
    rintro ⟨k, f1, f2⟩ hk ih
    dsimp only at hk ih ⊢
    refine ev_ps 2 rfl (ev_ic (cd := .ge) rfl (fun h => hK _ _ _) (fun h => ?_))
    have hk' : k < n := rn_ge_f (by omega) (by omega) h
    refine ev_ps 4 rfl ?_
    refine ev_call (av := [.ref 25, .int (Int32.ofNat (p + k))]) rfl (by rw [← rz_add]; rfl) rfl rfl ⟨Nat.le_of_ble_eq_true rfl, rfl⟩ ⟨Nat.le_of_ble_eq_true rfl, Nat.le_of_ble_eq_true rfl⟩ (m_does (by omega) (h1 (p + k) (by omega) (by omega))) ?_
    rintro _ _ ⟨rfl, d, j, hd, hj, rfl⟩
    have h9 := fun f => ih (k + 1, f, f2) (by show k + 1 ≤ n; omega) (by show n - (k + 1) < n - k; omega)
    dsimp only at h9
    rw [← rz_succ k] at h9
    exact ev_w (w2 := rz_w v (rz_ua (rz_ua a 27 (upd f1 _ _)) 28 f2) g) rfl (ev_ps 2 rfl (h9 _))
  have D2 : ∀ (x6 : Int32), (∀ (t7 : Option Value) (f1 f2 : Nat → Int32), rz_E xs xl 95 69 [some (.ref 25), some (.int (Int32.ofNat p)), some (.int (Int32.ofNat n)), some (.int (Int32.ofNat q)), some (.int (Int32.ofNat m)), some (.int z), some (.int x6), t7] [] (rz_w v (rz_ua (rz_ua a 27 f1) 28 f2) g) 0 0 (fun q w' => (∃ u, (u = 0 ∨ u = 1) ∧ q = .inl (some (.int u))) ∧ ∃ f1 f2, w' = rz_w v (rz_ua (rz_ua a 27 f1) 28 f2) g)) → ∀ (f1 f2 : Nat → Int32), rz_E xs xl 95 43 [some (.ref 25), some (.int (Int32.ofNat p)), some (.int (Int32.ofNat n)), some (.int (Int32.ofNat q)), some (.int (Int32.ofNat m)), some (.int z), some (.int x6), some (.int (Int32.ofNat 0))] [] (rz_w v (rz_ua (rz_ua a 27 f1) 28 f2) g) 0 0 (fun q w' => (∃ u, (u = 0 ∨ u = 1) ∧ q = .inl (some (.int u))) ∧ ∃ f1 f2, w' = rz_w v (rz_ua (rz_ua a 27 f1) 28 f2) g) := by
    intro x6 hK f1 f2
    refine ev_loop (α := Nat × (Nat → Int32) × (Nat → Int32)) (fun r => 4 - r.1) (fun r => r.1 ≤ 4) (fun r => [some (.ref 25), some (.int (Int32.ofNat p)), some (.int (Int32.ofNat n)), some (.int (Int32.ofNat q)), some (.int (Int32.ofNat m)), some (.int z), some (.int x6), some (.int (Int32.ofNat r.1))]) (fun _ => []) (fun r => rz_w v (rz_ua (rz_ua a 27 r.2.1) 28 r.2.2) g) ?_ (0, f1, f2) (Nat.zero_le _)
    rintro ⟨k, f1, f2⟩ hk ih
    dsimp only at hk ih ⊢
    refine ev_ps 2 rfl (ev_ic (cd := .ge) rfl (fun h => hK _ _ _) (fun h => ?_))
    have hk' : k < 4 := rn_ge_f (k := 4) (by omega) (by omega) h
    refine ev_ps 6 rfl (ev_ald rfl rfl (rz_in hk' (by decide)) ?_)
    refine ev_ast rfl rfl (rz_in hk' (by decide)) ?_
    have h9 := fun f => ih (k + 1, f1, f) (by show k + 1 ≤ 4; omega) (by show 4 - (k + 1) < 4 - k; omega)
    dsimp only at h9
    rw [← rz_succ k] at h9
    exact ev_w (w2 := rz_w v (rz_ua (rz_ua a 27 f1) 28 (upd f2 _ _)) g) rfl (ev_ps 2 rfl (h9 _))
  have D3 : ∀ (x6 : Int32), (∀ (t7 : Option Value) (f1 f2 : Nat → Int32), rz_E xs xl 95 99 [some (.ref 25), some (.int (Int32.ofNat p)), some (.int (Int32.ofNat n)), some (.int (Int32.ofNat q)), some (.int (Int32.ofNat m)), some (.int z), some (.int x6), t7] [] (rz_w v (rz_ua (rz_ua a 27 f1) 28 f2) g) 0 0 (fun q w' => (∃ u, (u = 0 ∨ u = 1) ∧ q = .inl (some (.int u))) ∧ ∃ f1 f2, w' = rz_w v (rz_ua (rz_ua a 27 f1) 28 f2) g)) → ∀ (f1 f2 : Nat → Int32), rz_E xs xl 95 78 [some (.ref 25), some (.int (Int32.ofNat p)), some (.int (Int32.ofNat n)), some (.int (Int32.ofNat q)), some (.int (Int32.ofNat m)), some (.int z), some (.int x6), some (.int (Int32.ofNat 0))] [] (rz_w v (rz_ua (rz_ua a 27 f1) 28 f2) g) 0 0 (fun q w' => (∃ u, (u = 0 ∨ u = 1) ∧ q = .inl (some (.int u))) ∧ ∃ f1 f2, w' = rz_w v (rz_ua (rz_ua a 27 f1) 28 f2) g) := by
    intro x6 hK f1 f2
    refine ev_loop (α := Nat × (Nat → Int32) × (Nat → Int32)) (fun r => m - r.1) (fun r => r.1 ≤ m) (fun r => [some (.ref 25), some (.int (Int32.ofNat p)), some (.int (Int32.ofNat n)), some (.int (Int32.ofNat q)), some (.int (Int32.ofNat m)), some (.int z), some (.int x6), some (.int (Int32.ofNat r.1))]) (fun _ => []) (fun r => rz_w v (rz_ua (rz_ua a 27 r.2.1) 28 r.2.2) g) ?_ (0, f1, f2) (Nat.zero_le _)
    rintro ⟨k, f1, f2⟩ hk ih
    dsimp only at hk ih ⊢
    refine ev_ps 2 rfl (ev_ic (cd := .ge) rfl (fun h => hK _ _ _) (fun h => ?_))
    have hk' : k < m := rn_ge_f (by omega) (by omega) h
    refine ev_ps 4 rfl ?_
    refine ev_call (av := [.ref 25, .int (Int32.ofNat (q + k))]) rfl (by rw [← rz_add]; rfl) rfl rfl ⟨Nat.le_of_ble_eq_true rfl, rfl⟩ ⟨Nat.le_of_ble_eq_true rfl, Nat.le_of_ble_eq_true rfl⟩ (m_does (by omega) (h2 (q + k) (by omega) (by omega))) ?_
    rintro _ _ ⟨rfl, d, j, hd, hj, rfl⟩
    have h9 := fun f => ih (k + 1, f, f2) (by show k + 1 ≤ m; omega) (by show m - (k + 1) < m - k; omega)
    dsimp only at h9
    rw [← rz_succ k] at h9
    exact ev_w (w2 := rz_w v (rz_ua (rz_ua a 27 (upd f1 _ _)) 28 f2) g) rfl (ev_ps 2 rfl (h9 _))
  have D4 : ∀ (x6 : Int32), (∀ (t7 : Option Value) (f1 f2 : Nat → Int32), rz_E xs xl 95 144 [some (.ref 25), some (.int (Int32.ofNat p)), some (.int (Int32.ofNat n)), some (.int (Int32.ofNat q)), some (.int (Int32.ofNat m)), some (.int z), some (.int x6), t7] [] (rz_w v (rz_ua (rz_ua a 27 f1) 28 f2) g) 0 0 (fun q w' => (∃ u, (u = 0 ∨ u = 1) ∧ q = .inl (some (.int u))) ∧ ∃ f1 f2, w' = rz_w v (rz_ua (rz_ua a 27 f1) 28 f2) g)) → ∀ (f1 f2 : Nat → Int32), rz_E xs xl 95 102 [some (.ref 25), some (.int (Int32.ofNat p)), some (.int (Int32.ofNat n)), some (.int (Int32.ofNat q)), some (.int (Int32.ofNat m)), some (.int z), some (.int x6), some (.int (Int32.ofNat 1))] [] (rz_w v (rz_ua (rz_ua a 27 f1) 28 f2) g) 0 0 (fun q w' => (∃ u, (u = 0 ∨ u = 1) ∧ q = .inl (some (.int u))) ∧ ∃ f1 f2, w' = rz_w v (rz_ua (rz_ua a 27 f1) 28 f2) g) := by
    intro x6 hK f1 f2
    refine ev_loop (α := Nat) (fun r => 4 - r) (fun r => r ≤ 4) (fun r => [some (.ref 25), some (.int (Int32.ofNat p)), some (.int (Int32.ofNat n)), some (.int (Int32.ofNat q)), some (.int (Int32.ofNat m)), some (.int z), some (.int x6), some (.int (Int32.ofNat r))]) (fun _ => []) (fun r => rz_w v (rz_ua (rz_ua a 27 f1) 28 f2) g) ?_ 1 (by omega)
    intro k hk ih
    have next : k < 4 → rz_E xs xl 95 138 [some (.ref 25), some (.int (Int32.ofNat p)), some (.int (Int32.ofNat n)), some (.int (Int32.ofNat q)), some (.int (Int32.ofNat m)), some (.int z), some (.int x6), some (.int (Int32.ofNat k))] [] (rz_w v (rz_ua (rz_ua a 27 f1) 28 f2) g) 0 0 (fun q w' => (∃ u, (u = 0 ∨ u = 1) ∧ q = .inl (some (.int u))) ∧ ∃ f1 f2, w' = rz_w v (rz_ua (rz_ua a 27 f1) 28 f2) g) := fun hk' => by
      have h9 := ih (k + 1) (by omega) (by omega)
      rw [← rz_succ k] at h9
      exact ev_ps 2 rfl h9
    refine ev_ps 2 rfl (ev_ic (cd := .ge) rfl (fun h => hK _ _ _) (fun h => ?_))
    have hk' : k < 4 := rn_ge_f (k := 4) (by omega) (by omega) h
    refine ev_ps 6 rfl (ev_ic (cd := .ne) rfl (fun h => next hk') (fun h => ?_))
    refine ev_ps 3 rfl (ev_ald rfl rfl (rz_in hk' (by decide)) ?_)
    refine ev_ps 3 rfl (ev_ald rfl rfl (rz_in hk' (by decide)) ?_)
    refine ev_ic (cd := .eq) rfl (fun h => next hk') (fun h => ?_)
    exact ev_ps 1 rfl (ev_ret rfl rfl ⟨⟨0, Or.inl rfl, rfl⟩, f1, f2, rfl⟩)
  refine ev_ps 2 rfl (ev_w (w2 := rz_w v (rz_ua (rz_ua a 27 (a 27)) 28 (a 28)) g) rfl ?_)
  refine ev_loop (α := Nat × Option Value × (Nat → Int32) × (Nat → Int32)) (fun r => 4096 - r.1) (fun r => r.1 ≤ 4096) (fun r => [some (.ref 25), some (.int (Int32.ofNat p)), some (.int (Int32.ofNat n)), some (.int (Int32.ofNat q)), some (.int (Int32.ofNat m)), some (.int z), some (.int (Int32.ofNat r.1)), r.2.1]) (fun _ => []) (fun r => rz_w v (rz_ua (rz_ua a 27 r.2.2.1) 28 r.2.2.2) g) ?_ (0, none, a 27, a 28) (Nat.zero_le _)
  rintro ⟨k, t7, f1, f2⟩ hk ih
  dsimp only at hk ih ⊢
  refine ev_ps 2 rfl (ev_ic (cd := .ge) rfl (fun h => ?_) (fun h => ?_))
  · exact ev_ps 1 rfl (ev_ret rfl rfl ⟨⟨1, Or.inr rfl, rfl⟩, f1, f2, rfl⟩)
  · have hk' : k < 4096 := rn_ge_f (k := 4096) (by omega) (by omega) h
    refine ev_ps 2 rfl (ev_call (av := [_, _]) rfl rfl rfl rfl ⟨Nat.le_of_ble_eq_true rfl, rfl⟩ ⟨Nat.le_of_ble_eq_true rfl, Nat.le_of_ble_eq_true rfl⟩ (m_begin _) ?_)
    rintro _ _ ⟨rfl, f, rfl⟩
    refine ev_w (w2 := rz_w v (rz_ua (rz_ua a 27 f) 28 f2) g) rfl (ev_ps 2 rfl (D1 _ (fun t7 f1 f2 => ?_) _ _))
    refine ev_ps 2 rfl (D2 _ (fun t7 f1 f2 => ?_) _ _)
    refine ev_ps 2 rfl (ev_call (av := [_, _]) rfl rfl rfl rfl ⟨Nat.le_of_ble_eq_true rfl, rfl⟩ ⟨Nat.le_of_ble_eq_true rfl, Nat.le_of_ble_eq_true rfl⟩ (m_begin _) ?_)
    rintro _ _ ⟨rfl, f, rfl⟩
    refine ev_w (w2 := rz_w v (rz_ua (rz_ua a 27 f) 28 f2) g) rfl (ev_ps 2 rfl (D3 _ (fun t7 f1 f2 => ?_) _ _))
    refine ev_ps 2 rfl (D4 _ (fun t7 f1 f2 => ?_) _ _)
    have h9 := ih (k + 1, t7, f1, f2) (by show k + 1 ≤ 4096; omega) (by show 4096 - (k + 1) < 4096 - k; omega)
    dsimp only at h9
    rw [← rz_succ k] at h9
    exact ev_ps 2 rfl h9
theorem m_isPlain {p n : Nat} (hp : p + n ≤ 25) : rz_C xs xl 94 [.ref 25, .int (Int32.ofNat p), .int (Int32.ofNat n)] (rz_w v a g) (rz_bo (rz_w v a g) True) := by
  refine ev_ps 4 rfl ?_
  refine ev_loop (α := Nat × Int32) (fun r => p + n - r.1) (fun r => r.1 ≤ p + n ∧ (r.2 = 0 ∨ r.2 = 1)) (fun r => [some (.ref 25), some (.int (Int32.ofNat p)), some (.int (Int32.ofNat n)), some (.int r.2), some (.int (Int32.ofNat r.1))]) (fun _ => []) (fun _ => rz_w v a g) ?_ (p, 1) ⟨by show p ≤ p + n; omega, Or.inr rfl⟩
  rintro ⟨k, b⟩ ⟨hk, hb⟩ ih
  dsimp only at hk hb ih ⊢
  have next : k < p + n → ∀ b : Int32, (b = 0 ∨ b = 1) → rz_E xs xl 94 34 [some (.ref 25), some (.int (Int32.ofNat p)), some (.int (Int32.ofNat n)), some (.int b), some (.int (Int32.ofNat k))] [.int b] (rz_w v a g) 0 0 (rz_bo (rz_w v a g) True) := fun hk' b hb => by
    have h9 := ih (k + 1, b) ⟨by show k + 1 ≤ p + n; omega, hb⟩ (by show p + n - (k + 1) < p + n - k; omega)
    dsimp only at h9
    rw [← rz_succ k] at h9
    exact ev_ps 3 rfl h9
  have next2 : k < p + n → ∀ b0 b : Int32, (b = 0 ∨ b = 1) → rz_E xs xl 94 34 [some (.ref 25), some (.int (Int32.ofNat p)), some (.int (Int32.ofNat n)), some (.int b0), some (.int (Int32.ofNat k))] [.int b] (rz_w v a g) 0 0 (rz_bo (rz_w v a g) True) := fun hk' b0 b hb => by
    have h9 := ih (k + 1, b) ⟨by show k + 1 ≤ p + n; omega, hb⟩ (by show p + n - (k + 1) < p + n - k; omega)
    dsimp only at h9
    rw [← rz_succ k] at h9
    exact ev_ps 3 rfl h9
  refine ev_ps 4 rfl (ev_ic (cd := .ge) rfl (fun h => ?_) (fun h => ?_))
  · exact ev_ps 1 rfl (ev_ret rfl (show (if b = 0 ∨ b = 1 then some (some (Value.int b)) else none) = _ from if_pos hb) ⟨⟨b, hb, fun _ => trivial, rfl⟩, rfl⟩)
  · rw [rz_add] at h
    have hk' : k < p + n := rn_ge_f (by omega) (by omega) h
    refine ev_ps 1 rfl (ev_if (cd := .eq) rfl (fun h => ?_) (fun h => ?_))
    · exact ev_ps 1 rfl (next2 hk' _ 0 (Or.inl rfl))
    · refine ev_ps 3 rfl (ev_ald rfl rfl (rz_in (by omega) (by decide)) ?_)
      refine ev_ps 1 rfl (ev_ic (cd := .gt) rfl (fun h => ?_) (fun h => ?_))
      · exact ev_ps 1 rfl (next2 hk' _ 0 (Or.inl rfl))
      · exact ev_ps 2 rfl (next2 hk' _ 1 (Or.inr rfl))
theorem m_isThere {n m : Nat} (x : Int32) (hn : n ≤ 3) (hm : m ≤ 24) (hv : v 21 = Int32.ofNat m) : rz_C xs xl 93 [.ref 25, .int x, .int (Int32.ofNat n)] (rz_w v a g) (rz_bo (rz_w v a g) (∃ p : Nat, x = Int32.ofNat p ∧ p + n ≤ m)) := by
  refine ev_ps 1 rfl (ev_if (cd := .lt) rfl (fun h => ?_) (fun h => ?_))
  · exact ev_ps 1 rfl (ev_ret rfl rfl rz_bo0)
  · refine ev_ps 9 rfl (ev_if (cd := .gt) rfl (fun h2 => ?_) (fun h2 => ?_))
    · exact ev_ps 1 rfl (ev_ret rfl rfl rz_bo0)
    · refine ev_ps 2 rfl (ev_ret rfl rfl (rz_bo1 ?_))
      obtain ⟨p, hp, rfl⟩ := rz_nat (rc_lt_f h)
      refine ⟨p, rfl, ?_⟩
      rw [hv] at h2
      have h3 := rc_gt_f h2
      have e1 : (Int32.ofNat p).toInt64.toInt = (p : Int) := by rw [Int32.toInt_toInt64, rz_toInt hp]
      have e2 : (Int32.ofNat n).toInt64.toInt = (n : Int) := by rw [Int32.toInt_toInt64, rz_toInt (by omega)]
      have e3 : (Int32.ofNat m).toInt64.toInt = (m : Int) := by rw [Int32.toInt_toInt64, rz_toInt (by omega)]
      have e4 : ((Int32.ofNat p).toInt64 + (Int32.ofNat n).toInt64).toInt = (p : Int) + (n : Int) := by
        rw [Int64.toInt_add, e1, e2]
        rw [Int.bmod_eq_of_le (by omega) (by omega)]
      have h4 : ¬ (Int32.ofNat m).toInt64 < (Int32.ofNat p).toInt64 + (Int32.ofNat n).toInt64 := fun q => h3 (by
        show 0 < lg_cmp ((Int32.ofNat p).toInt64 + (Int32.ofNat n).toInt64) (Int32.ofNat m).toInt64
        unfold lg_cmp
        rw [if_pos q]
        decide)
      rw [Int64.lt_iff_toInt_lt, e3, e4] at h4
      omega
theorem rz_mi_st {f1 f2 : Nat → Int32} (hmi : rz_mi v a) : rz_mi v (rz_ua (rz_ua a 27 f1) 28 f2) := hmi
theorem m_same (hmi : rz_mi v a) (x n y m z : Int32) : rz_C xs xl 92 [.ref 25, .int x, .int n, .int y, .int m, .int z] (rz_w v a g) (rz_mp v a g rz_pi) := by
  have no : ∀ c : Int32, c ≠ 0 → rz_E xs xl 92 82 [some (.ref 25), some (.int x), some (.int n), some (.int y), some (.int m), some (.int z)] [.int c, .ref 25] (rz_w v a g) 0 0 (rz_mp v a g rz_pi) := by
    intro c hc
    refine ev_ps 1 rfl (ev_w (w2 := rz_w (rz_up v 20 c) a g) rfl ?_)
    refine ev_ps 2 rfl (ev_if (cd := .ne) rfl (fun h => ?_) (fun h => absurd (rc_ne_f h) hc))
    exact ev_ps 1 rfl (ev_ret rfl rfl ⟨⟨_, rfl⟩, _, _, rfl, rz_mf.rf.up (by omega) _, hmi⟩)
  have no1 : rz_E xs xl 92 31 [some (.ref 25), some (.int x), some (.int n), some (.int y), some (.int m), some (.int z)] [.ref 25] (rz_w v a g) 0 0 (rz_mp v a g rz_pi) := ev_ps 2 rfl (no 1 (by decide))
  have no2 : rz_E xs xl 92 54 [some (.ref 25), some (.int x), some (.int n), some (.int y), some (.int m), some (.int z)] [.ref 25] (rz_w v a g) 0 0 (rz_mp v a g rz_pi) := ev_ps 2 rfl (no 2 (by decide))
  have no3 : rz_E xs xl 92 77 [some (.ref 25), some (.int x), some (.int n), some (.int y), some (.int m), some (.int z)] [.ref 25] (rz_w v a g) 0 0 (rz_mp v a g rz_pi) := ev_ps 2 rfl (no 3 (by decide))
  obtain ⟨k, hk, hv, hrows⟩ := hmi.1
  refine ev_ps 4 rfl (ev_call (av := [_, _, _]) rfl rfl rfl rfl ⟨Nat.le_of_ble_eq_true rfl, rfl⟩ ⟨Nat.le_of_ble_eq_true rfl, Nat.le_of_ble_eq_true rfl⟩ (m_in _ _ _) ?_)
  rintro _ _ ⟨⟨u1, h1, rfl⟩, rfl⟩
  refine ev_if (cd := .eq) rfl (fun e => no1) (fun e1 => ?_)
  obtain ⟨-, n0, n1⟩ := h1.resolve_right (fun q => rc_eq_f e1 q.1)
  refine ev_ps 3 rfl (ev_call (av := [_, _, _]) rfl rfl rfl rfl ⟨Nat.le_of_ble_eq_true rfl, rfl⟩ ⟨Nat.le_of_ble_eq_true rfl, Nat.le_of_ble_eq_true rfl⟩ (m_in _ _ _) ?_)
  rintro _ _ ⟨⟨u2, h2, rfl⟩, rfl⟩
  refine ev_if (cd := .eq) rfl (fun e => no1) (fun e2 => ?_)
  obtain ⟨-, m0, m1⟩ := h2.resolve_right (fun q => rc_eq_f e2 q.1)
  refine ev_ps 3 rfl (ev_call (av := [_, _, _]) rfl rfl rfl rfl ⟨Nat.le_of_ble_eq_true rfl, rfl⟩ ⟨Nat.le_of_ble_eq_true rfl, Nat.le_of_ble_eq_true rfl⟩ (m_in _ _ _) ?_)
  rintro _ _ ⟨⟨u3, h3, rfl⟩, rfl⟩
  refine ev_if (cd := .ne) rfl (fun e3 => ?_) (fun e => no1)
  obtain ⟨n', hn', rfl⟩ := rz_le_nat (b := 3) (by decide) n0 n1
  obtain ⟨m', hm', rfl⟩ := rz_le_nat (b := 3) (by decide) m0 m1
  refine ev_ps 3 rfl (ev_call (av := [_, _, _]) rfl rfl rfl rfl ⟨Nat.le_of_ble_eq_true rfl, rfl⟩ ⟨Nat.le_of_ble_eq_true rfl, Nat.le_of_ble_eq_true rfl⟩ (m_isThere _ hn' hk hv) ?_)
  rintro _ _ ⟨⟨u4, hu4, hP4, rfl⟩, rfl⟩
  refine ev_if (cd := .eq) rfl (fun e => no2) (fun e4 => ?_)
  obtain ⟨p, rfl, hpn⟩ := hP4 (hu4.resolve_left (rc_eq_f e4))
  refine ev_ps 3 rfl (ev_call (av := [_, _, _]) rfl rfl rfl rfl ⟨Nat.le_of_ble_eq_true rfl, rfl⟩ ⟨Nat.le_of_ble_eq_true rfl, Nat.le_of_ble_eq_true rfl⟩ (m_isThere _ hm' hk hv) ?_)
  rintro _ _ ⟨⟨u5, hu5, hP5, rfl⟩, rfl⟩
  refine ev_if (cd := .ne) rfl (fun e5 => ?_) (fun e => no2)
  obtain ⟨q, rfl, hqm⟩ := hP5 (hu5.resolve_left (rc_ne_t e5))
  refine ev_ps 3 rfl (ev_call (av := [_, _, _]) rfl rfl rfl rfl ⟨Nat.le_of_ble_eq_true rfl, rfl⟩ ⟨Nat.le_of_ble_eq_true rfl, Nat.le_of_ble_eq_true rfl⟩ (m_isPlain (by omega)) ?_)
  rintro _ _ ⟨⟨u6, hu6, -, rfl⟩, rfl⟩
  refine ev_if (cd := .eq) rfl (fun e => no3) (fun e6 => ?_)
  refine ev_ps 3 rfl (ev_call (av := [_, _, _]) rfl rfl rfl rfl ⟨Nat.le_of_ble_eq_true rfl, rfl⟩ ⟨Nat.le_of_ble_eq_true rfl, Nat.le_of_ble_eq_true rfl⟩ (m_isPlain (by omega)) ?_)
  rintro _ _ ⟨⟨u7, hu7, -, rfl⟩, rfl⟩
  refine ev_if (cd := .ne) rfl (fun e7 => ?_) (fun e => no3)
  refine ev_ps 2 rfl (ev_w (w2 := rz_w (rz_up v 20 0) a g) rfl ?_)
  refine ev_ps 2 rfl (ev_if (cd := .ne) rfl (fun h => absurd rfl (rc_ne_t h)) (fun h => ?_))
  refine ev_ps 6 rfl (ev_call (av := [_, _, _, _, _, _]) rfl rfl rfl rfl ⟨Nat.le_of_ble_eq_true rfl, rfl⟩ ⟨Nat.le_of_ble_eq_true rfl, Nat.le_of_ble_eq_true rfl⟩ (m_agree _ (by omega) (by omega) (fun j h1 h2 => hrows j (by omega)) (fun j h1 h2 => hrows j (by omega))) ?_)
  rintro _ _ ⟨⟨u8, hu8, rfl⟩, f1, f2, rfl⟩
  refine ev_if (cd := .eq) rfl (fun h => ?_) (fun h => ?_)
  · exact ev_ps 1 rfl (ev_ret rfl rfl ⟨⟨_, rfl⟩, _, _, rfl, ((rz_mf.rf.up (by omega) _).ua (by omega) _).ua (by omega) _, hmi⟩)
  · exact ev_ps 2 rfl (ev_ret rfl rfl ⟨⟨_, rfl⟩, _, _, rfl, ((rz_mf.rf.up (by omega) _).ua (by omega) _).ua (by omega) _, hmi⟩)
end RZM2
/-! the reference: blocks, runs -/
section RZM3
variable {xs : Nat → Int32} {xl : Nat} {v : Nat → Int32} {a : Nat → Nat → Int32} {g : Nat → Int64}
/-- no row below n jumps to p -/
def rz_nt (a : Nat → Nat → Int32) (n p : Nat) : Prop := ∀ k, k < n → ¬ (¬ a 20 k < 12 ∧ ¬ 14 < a 20 k ∧ a 23 k = Int32.ofNat p)
theorem m_isBegin {p n : Nat} (hv : v 21 = Int32.ofNat n) (hn : n ≤ 24) (hp : p ≤ 24) : rz_C xs xl 91 [.ref 25, .int (Int32.ofNat p)] (rz_w v a g) (fun q w' => (∃ u : Int32, (u = 0 ∨ u = 1) ∧ (u = 0 → p ≠ 0 ∧ rz_nt a n p) ∧ q = .inl (some (.int u))) ∧ w' = rz_w v a g) := by
  have main : ∀ b : Int32, (b = 0 ∨ b = 1) → (b = 0 → p ≠ 0) → rz_E xs xl 91 22 [some (.ref 25), some (.int (Int32.ofNat p)), none, none] [.int b] (rz_w v a g) 0 0 (fun q w' => (∃ u : Int32, (u = 0 ∨ u = 1) ∧ (u = 0 → p ≠ 0 ∧ rz_nt a n p) ∧ q = .inl (some (.int u))) ∧ w' = rz_w v a g) := by
    intro b hb hbp
    refine ev_ps 3 rfl ?_
    refine ev_loop (α := Nat × Int32) (fun r => n - r.1) (fun r => r.1 ≤ n ∧ (r.2 = 0 ∨ r.2 = 1) ∧ (r.2 = 0 → p ≠ 0 ∧ rz_nt a r.1 p)) (fun r => [some (.ref 25), some (.int (Int32.ofNat p)), some (.int r.2), some (.int (Int32.ofNat r.1))]) (fun _ => []) (fun _ => rz_w v a g) ?_ (0, b) ⟨Nat.zero_le _, hb, fun h => ⟨hbp h, fun k hk => absurd hk (by omega)⟩⟩
    rintro ⟨k, b⟩ ⟨hk, hb, hbp⟩ ih
    dsimp only at hk hb hbp ih ⊢
    have next : k < n → ∀ c : Int32, (c = 0 ∨ c = 1) → (c = 0 → p ≠ 0 ∧ rz_nt a (k + 1) p) → rz_E xs xl 91 74 [some (.ref 25), some (.int (Int32.ofNat p)), some (.int b), some (.int (Int32.ofNat k))] [.int c] (rz_w v a g) 0 0 (fun q w' => (∃ u : Int32, (u = 0 ∨ u = 1) ∧ (u = 0 → p ≠ 0 ∧ rz_nt a n p) ∧ q = .inl (some (.int u))) ∧ w' = rz_w v a g) := fun hk' c hc hcp => by
      have h9 := ih (k + 1, c) ⟨by show k + 1 ≤ n; omega, hc, hcp⟩ (by show n - (k + 1) < n - k; omega)
      dsimp only at h9
      rw [← rz_succ k] at h9
      exact ev_ps 3 rfl h9
    refine ev_ps 3 rfl (ev_ic (cd := .ge) rfl (fun h => ?_) (fun h => ?_))
    · rw [hv] at h
      have hkn : n ≤ k := rn_ge_t (by omega) (by omega) h
      have : k = n := by omega
      subst this
      exact ev_ps 1 rfl (ev_ret rfl (show (if b = 0 ∨ b = 1 then some (some (Value.int b)) else none) = _ from if_pos hb) ⟨⟨b, hb, hbp, rfl⟩, rfl⟩)
    · rw [hv] at h
      have hk' : k < n := rn_ge_f (by omega) (by omega) h
      have e := rz_clamp (k := k) (by omega)
      have hin : ¬ (Int32.ofNat k < 0 ∨ 25 ≤ (Int32.ofNat k).toNatClampNeg) := rz_in (by omega) (by decide)
      refine ev_ps 1 rfl (ev_if (cd := .ne) rfl (fun h => ?_) (fun h => ?_))
      · exact ev_ps 2 rfl (next hk' 1 (Or.inr rfl) (fun h => absurd h (by decide)))
      · have hb0 : b = 0 := rc_ne_f h
        have ext : (¬ (¬ a 20 k < 12 ∧ ¬ 14 < a 20 k ∧ a 23 k = Int32.ofNat p)) → (0 : Int32) = 0 → p ≠ 0 ∧ rz_nt a (k + 1) p := fun hno _ => ⟨(hbp hb0).1, fun j hj => by
          by_cases hjk : j = k
          · rw [hjk]; exact hno
          · exact (hbp hb0).2 j (by omega)⟩
        refine ev_ps 3 rfl (ev_ald rfl rfl hin ?_)
        refine ev_ps 1 rfl (ev_ic (cd := .lt) rfl (fun h => ?_) (fun h => ?_))
        · exact ev_ps 1 rfl (next hk' 0 (Or.inl rfl) (ext (fun q => q.1 (by have := rc_lt_t h; rw [← e]; exact this))))
        · refine ev_ps 3 rfl (ev_ald rfl rfl hin ?_)
          refine ev_ps 1 rfl (ev_ic (cd := .gt) rfl (fun h2 => ?_) (fun h2 => ?_))
          · exact ev_ps 1 rfl (next hk' 0 (Or.inl rfl) (ext (fun q => q.2.1 (by have := rc_gt_t h2; rw [← e]; exact this))))
          · refine ev_ps 3 rfl (ev_ald rfl rfl hin ?_)
            refine ev_ps 1 rfl (ev_ic (cd := .ne) rfl (fun h3 => ?_) (fun h3 => ?_))
            · exact ev_ps 1 rfl (next hk' 0 (Or.inl rfl) (ext (fun q => rc_ne_t h3 (by rw [e]; exact q.2.2))))
            · exact ev_ps 2 rfl (next hk' 1 (Or.inr rfl) (fun h => absurd h (by decide)))
  refine ev_ps 1 rfl (ev_if (cd := .eq) rfl (fun h1 => ?_) (fun h1 => ?_))
  · exact ev_ps 2 rfl (main 1 (Or.inr rfl) (fun h => absurd h (by decide)))
  · have hp0 : 0 < p := by
      rcases Nat.eq_zero_or_pos p with rfl | h
      · exact absurd rfl (rc_eq_f h1)
      · exact h
    refine ev_ps 5 rfl (ev_ald rfl rfl (by rw [show Int32.ofNat p - Int32.ofInt 1 = Int32.ofNat (p - 1) from rz_sub (n := 1) hp0]; exact rz_in (by omega) (by decide)) ?_)
    refine ev_ps 1 rfl (ev_ic (cd := .lt) rfl (fun h2 => ?_) (fun h2 => ?_))
    · exact ev_ps 1 rfl (main 0 (Or.inl rfl) (fun _ => by omega))
    · exact ev_ps 2 rfl (main 1 (Or.inr rfl) (fun h => absurd h (by decide)))
theorem m_block (hmi : rz_mi v a) (x : Int32) : rz_C xs xl 90 [.ref 25, .int x] (rz_w v a g) (rz_mp v a g rz_pi) := by
  refine ev_ps 7 rfl (ev_call (av := [_, _, _]) rfl rfl rfl rfl ⟨Nat.le_of_ble_eq_true rfl, rfl⟩ ⟨Nat.le_of_ble_eq_true rfl, Nat.le_of_ble_eq_true rfl⟩ (m_in _ _ _) ?_)
  rintro _ _ ⟨⟨u2, h2, rfl⟩, rfl⟩
  refine ev_if (cd := .eq) rfl (fun e2 => ?_) (fun e2 => ?_)
  · refine ev_ps 2 rfl (ev_w (w2 := rz_w (rz_up v 20 1) a g) rfl ?_)
    refine ev_ps 2 rfl (ev_if (cd := .eq) rfl (fun h => absurd (rc_eq_t h) (show ¬ (1 : Int32) = 0 by decide)) (fun h => ?_))
    exact ev_ps 1 rfl (ev_ret rfl rfl ⟨⟨_, rfl⟩, _, _, rfl, rz_mf.rf.up (by omega) _, hmi⟩)
  · obtain ⟨-, y0, y1⟩ := h2.resolve_right (fun q => rc_eq_f e2 q.1)
    obtain ⟨n, hn, hv, hrows⟩ := hmi.1
    have y1' : ¬ v 21 - 1 < x := y1
    rw [hv] at y1'
    obtain ⟨k, hk, rfl⟩ := rz_sub1 hn y0 y1'
    refine ev_ps 3 rfl (ev_w (w2 := rz_w (rz_up v 20 0) a g) rfl ?_)
    refine ev_ps 2 rfl (ev_if (cd := .eq) rfl (fun h => ?_) (fun h => absurd rfl (rc_eq_f h)))
    refine ev_ps 2 rfl ?_
    refine ev_loop (α := Nat) (fun r => r) (fun r => r ≤ 24) (fun r => [some (.ref 25), some (.int (Int32.ofNat k)), some (.int (Int32.ofNat r))]) (fun _ => []) (fun _ => rz_w (rz_up v 20 0) a g) ?_ k (by omega)
    intro j hj ih
    refine ev_ps 2 rfl (ev_call (av := [_, _]) rfl rfl rfl rfl ⟨Nat.le_of_ble_eq_true rfl, rfl⟩ ⟨Nat.le_of_ble_eq_true rfl, Nat.le_of_ble_eq_true rfl⟩ (m_isBegin (v := rz_up v 20 0) hv hn hj) ?_)
    rintro _ _ ⟨⟨u3, hu3, hP3, rfl⟩, rfl⟩
    refine ev_if (cd := .ne) rfl (fun h => ?_) (fun h => ?_)
    · exact ev_ps 1 rfl (ev_ret rfl rfl ⟨⟨_, rfl⟩, _, _, rfl, rz_mf.rf.up (by omega) _, hmi⟩)
    · have hj0 : 0 < j := Nat.pos_of_ne_zero (hP3 (rc_ne_f h)).1
      have h9 := ih (j - 1) (by omega) (by omega)
      rw [← rz_sub (k := j) (n := 1) hj0, show Int32.ofNat j - Int32.ofNat 1 = Int32.ofNat j + Int32.ofInt (-1) from Int32.sub_eq_add_neg _ _] at h9
      exact ev_ps 2 rfl h9
theorem rz_cellIdx {i t : Nat} (hi : i ≤ 15) (ht : t ≤ 24) : ∃ c, c < 12 ∧ 4 + (Int32.ofNat i + Int32.ofNat t - (Int32.ofNat i + Int32.ofNat t) / 8 * 8) = Int32.ofNat c := by
  rw [rz_add]
  have key : ∀ s, s < 47 → (4 + (Int32.ofNat s - Int32.ofNat s / 8 * 8)) = Int32.ofNat (4 + s % 8) := by decide +kernel
  exact ⟨4 + (i + t) % 8, by omega, key (i + t) (by omega)⟩
theorem rz_sm_up {f : Nat → Int32} {n k j : Nat} (h : rz_sm f n) (hj : j ≤ 15) : rz_sm (upd f k (Int32.ofNat j)) n := by
  intro i hi
  by_cases hik : i = k
  · exact ⟨j, hj, by simp [upd, hik]⟩
  · obtain ⟨j', hj', e⟩ := h i hi
    exact ⟨j', hj', by simp [upd, hik]; exact e⟩
theorem m_execute {k n : Nat} (hmi : rz_mi v a) (hv : v 21 = Int32.ofNat n) (hn : n ≤ 24) (hk : k < n) (hli : rz_li a k) : rz_C xs xl 81 [.ref 25, .int (Int32.ofNat k)] (rz_w v a g) (fun q w' => q = .inl none ∧ ∃ (j : Nat) (f f2 : Nat → Int32), j ≤ 24 ∧ rz_sm f2 12 ∧ w' = rz_w (rz_up v 23 (Int32.ofNat j)) (rz_ua (rz_ua a 27 f) 25 f2) g) := by
  obtain ⟨o', d', s', t', ho, hd, hs, ht, b1, b2, b3, b4, b5⟩ := id hli
  have e := rz_clamp (k := k) (by omega)
  rw [← e] at ho hd hs ht
  have hin : ¬ (Int32.ofNat k < 0 ∨ 25 ≤ (Int32.ofNat k).toNatClampNeg) := rz_in (by omega) (by decide)
  -- the end: the state goes back into the cells
  have back : ∀ (x3 : Int32) (j : Nat) (f f2 : Nat → Int32), j ≤ 24 → rz_sm f 4 → rz_sm f2 12 → rz_E xs xl 81 220 [some (.ref 25), some (.int (Int32.ofNat k)), some (.int (a 20 (Int32.ofNat k).toNatClampNeg)), some (.int x3), none] [] (rz_w (rz_up v 23 (Int32.ofNat j)) (rz_ua (rz_ua a 27 f) 25 f2) g) 0 0 (fun q w' => q = .inl none ∧ ∃ (j : Nat) (f f2 : Nat → Int32), j ≤ 24 ∧ rz_sm f2 12 ∧ w' = rz_w (rz_up v 23 (Int32.ofNat j)) (rz_ua (rz_ua a 27 f) 25 f2) g) := by
    intro x3 j f f2 hj hf hf2
    refine ev_ps 2 rfl ?_
    refine ev_loop (α := Nat × (Nat → Int32)) (fun r => 4 - r.1) (fun r => r.1 ≤ 4 ∧ rz_sm r.2 12) (fun r => [some (.ref 25), some (.int (Int32.ofNat k)), some (.int (a 20 (Int32.ofNat k).toNatClampNeg)), some (.int x3), some (.int (Int32.ofNat r.1))]) (fun _ => []) (fun r => rz_w (rz_up v 23 (Int32.ofNat j)) (rz_ua (rz_ua a 27 f) 25 r.2) g) ?_ (0, f2) ⟨Nat.zero_le _, hf2⟩
    rintro ⟨i, f2⟩ ⟨hi, hf2⟩ ih
    dsimp only at hi hf2 ih ⊢
    refine ev_ps 2 rfl (ev_ic (cd := .ge) rfl (fun h => ?_) (fun h => ?_))
    · exact ev_ret rfl rfl ⟨rfl, j, f, f2, hj, hf2, rfl⟩
    · have hi' : i < 4 := rn_ge_f (k := 4) (by omega) (by omega) h
      obtain ⟨c, hc, ec⟩ := hf i hi'
      have ei := rz_clamp (k := i) (by omega)
      refine ev_ps 6 rfl (ev_ald rfl rfl (rz_in hi' (by decide)) ?_)
      refine ev_ast rfl rfl (rz_in (by omega) (by decide)) ?_
      have h9 := ih (i + 1, upd f2 i (Int32.ofNat c)) ⟨by show i + 1 ≤ 4; omega, rz_sm_up hf2 hc⟩ (by show 4 - (i + 1) < 4 - i; omega)
      dsimp only at h9
      rw [← rz_succ i] at h9
      refine ev_w (w2 := rz_w (rz_up v 23 (Int32.ofNat j)) (rz_ua (rz_ua a 27 f) 25 (upd f2 i (Int32.ofNat c))) g) ?_ (ev_ps 2 rfl h9)
      rw [ei, ← ec]
      rfl
  -- the row itself
  have mid : ∀ (f : Nat → Int32) (t3 : Option Value), rz_sm f 4 → rz_E xs xl 81 39 [some (.ref 25), some (.int (Int32.ofNat k)), some (.int (a 20 (Int32.ofNat k).toNatClampNeg)), t3, none] [] (rz_w (rz_up v 23 (Int32.ofNat (k + 1))) (rz_ua a 27 f) g) 0 0 (fun q w' => q = .inl none ∧ ∃ (j : Nat) (f f2 : Nat → Int32), j ≤ 24 ∧ rz_sm f2 12 ∧ w' = rz_w (rz_up v 23 (Int32.ofNat j)) (rz_ua (rz_ua a 27 f) 25 f2) g) := by
    intro f t3 hf
    obtain ⟨i, hi, ei⟩ := hmi.2.2.2 s' (by omega)
    obtain ⟨c, hc, ec⟩ := rz_cellIdx (i := i) (t := t') hi b4
    have es : a 25 (a 22 (Int32.ofNat k).toNatClampNeg).toNatClampNeg = Int32.ofNat i := by rw [hs, rz_clamp (by omega)]; exact ei
    refine ev_ps 6 rfl (ev_ald rfl rfl hin ?_)
    refine ev_ald rfl rfl (by rw [show (rz_ua a 27 f) 22 = a 22 from rfl, hs]; exact rz_in (by omega) (by decide)) ?_
    refine ev_ps 3 rfl (ev_ald rfl rfl hin ?_)
    refine ev_ps 5 rfl ?_
    refine ev_l (L2 := [some (.ref 25), some (.int (Int32.ofNat k)), some (.int (a 20 (Int32.ofNat k).toNatClampNeg)), some (.int (Int32.ofNat c)), none]) ?_ ?_
    · rw [← ec, ← es, ← ht]; rfl
    have same : rz_w (rz_up v 23 (Int32.ofNat (k + 1))) (rz_ua a 27 f) g = rz_w (rz_up v 23 (Int32.ofNat (k + 1))) (rz_ua (rz_ua a 27 f) 25 (a 25)) g := rfl
    have stay := back (Int32.ofNat c) (k + 1) f (a 25) (by omega) hf hmi.2.2.2
    have jump : rz_E xs xl 81 210 [some (.ref 25), some (.int (Int32.ofNat k)), some (.int (a 20 (Int32.ofNat k).toNatClampNeg)), some (.int (Int32.ofNat c)), none] [] (rz_w (rz_up v 23 (Int32.ofNat (k + 1))) (rz_ua a 27 f) g) 0 0 (fun q w' => q = .inl none ∧ ∃ (j : Nat) (f f2 : Nat → Int32), j ≤ 24 ∧ rz_sm f2 12 ∧ w' = rz_w (rz_up v 23 (Int32.ofNat j)) (rz_ua (rz_ua a 27 f) 25 f2) g) := by
      refine ev_ps 4 rfl (ev_ald rfl rfl hin ?_)
      refine ev_ps 1 rfl (ev_w (w2 := rz_w (rz_up v 23 (Int32.ofNat t')) (rz_ua (rz_ua a 27 f) 25 (a 25)) g) ?_ (back (Int32.ofNat c) t' f (a 25) b4 hf hmi.2.2.2))
      rw [← ht]; rfl
    have hd2 : ¬ (a 21 (Int32.ofNat k).toNatClampNeg < 0 ∨ 12 ≤ (a 21 (Int32.ofNat k).toNatClampNeg).toNatClampNeg) := by rw [hd]; exact rz_in (by omega) (by decide)
    have hs2 : ¬ (a 22 (Int32.ofNat k).toNatClampNeg < 0 ∨ 12 ≤ (a 22 (Int32.ofNat k).toNatClampNeg).toNatClampNeg) := by rw [hs]; exact rz_in (by omega) (by decide)
    refine ev_ps 2 rfl (ev_ic (cd := .gt) rfl (fun h => ?_) (fun h => ?_))
    · refine ev_ps 2 rfl (ev_ic (cd := .ne) rfl (fun h => ?_) (fun h => ?_))
      · refine ev_ps 2 rfl (ev_ic (cd := .ne) rfl (fun h => ?_) (fun h => ?_))
        · have later : rz_E xs xl 81 173 [some (.ref 25), some (.int (Int32.ofNat k)), some (.int (a 20 (Int32.ofNat k).toNatClampNeg)), some (.int (Int32.ofNat c)), none] [] (rz_w (rz_up v 23 (Int32.ofNat (k + 1))) (rz_ua a 27 f) g) 0 0 (fun q w' => q = .inl none ∧ ∃ (j : Nat) (f f2 : Nat → Int32), j ≤ 24 ∧ rz_sm f2 12 ∧ w' = rz_w (rz_up v 23 (Int32.ofNat j)) (rz_ua (rz_ua a 27 f) 25 f2) g) := by
            have last : rz_E xs xl 81 204 [some (.ref 25), some (.int (Int32.ofNat k)), some (.int (a 20 (Int32.ofNat k).toNatClampNeg)), some (.int (Int32.ofNat c)), none] [] (rz_w (rz_up v 23 (Int32.ofNat (k + 1))) (rz_ua a 27 f) g) 0 0 (fun q w' => q = .inl none ∧ ∃ (j : Nat) (f f2 : Nat → Int32), j ≤ 24 ∧ rz_sm f2 12 ∧ w' = rz_w (rz_up v 23 (Int32.ofNat j)) (rz_ua (rz_ua a 27 f) 25 f2) g) :=
              ev_ps 2 rfl (ev_ic (cd := .ne) rfl (fun h => ev_w same stay) (fun h => jump))
            refine ev_ps 2 rfl (ev_ic (cd := .ne) rfl (fun h => last) (fun h => ?_))
            refine ev_ps 5 rfl (ev_ald rfl rfl hin (ev_ald rfl rfl hd2 ?_))
            refine ev_ps 5 rfl (ev_ald rfl rfl hin (ev_ald rfl rfl hs2 ?_))
            exact ev_ic (cd := .ne) rfl (fun h => jump) (fun h => last)
          refine ev_ps 2 rfl (ev_ic (cd := .ne) rfl (fun h => later) (fun h => ?_))
          refine ev_ps 5 rfl (ev_ald rfl rfl hin (ev_ald rfl rfl hd2 ?_))
          refine ev_ps 5 rfl (ev_ald rfl rfl hin (ev_ald rfl rfl hs2 ?_))
          exact ev_ic (cd := .eq) rfl (fun h => jump) (fun h => later)
        · -- a cell is written
          obtain ⟨y, hy, ey⟩ := hmi.2.2.2 d' (by omega)
          have ed : a 25 (a 21 (Int32.ofNat k).toNatClampNeg).toNatClampNeg = Int32.ofNat y := by rw [hd, rz_clamp (by omega)]; exact ey
          refine ev_ps 8 rfl (ev_ald rfl rfl hin (ev_ald rfl rfl hd2 ?_))
          refine ev_ast rfl rfl (rz_in hc (by decide)) ?_
          refine ev_w (w2 := rz_w (rz_up v 23 (Int32.ofNat (k + 1))) (rz_ua (rz_ua a 27 f) 25 (upd (a 25) c (Int32.ofNat y))) g) ?_ (ev_ps 1 rfl (back (Int32.ofNat c) (k + 1) f _ (by omega) hf (rz_sm_up hmi.2.2.2 hy)))
          rw [← ed, rz_clamp (k := c) (by omega)]; rfl
      · -- a cell is read
        have fin : ∀ y : Nat, y ≤ 15 → rz_E xs xl 81 112 [some (.ref 25), some (.int (Int32.ofNat k)), some (.int (a 20 (Int32.ofNat k).toNatClampNeg)), some (.int (Int32.ofNat c)), none] [.int (Int32.ofNat y), .int (Int32.ofNat d'), .ref 33] (rz_w (rz_up v 23 (Int32.ofNat (k + 1))) (rz_ua a 27 f) g) 0 0 (fun q w' => q = .inl none ∧ ∃ (j : Nat) (f f2 : Nat → Int32), j ≤ 24 ∧ rz_sm f2 12 ∧ w' = rz_w (rz_up v 23 (Int32.ofNat j)) (rz_ua (rz_ua a 27 f) 25 f2) g) := by
          intro y hy
          refine ev_ast rfl rfl (rz_in (by omega) (by decide)) ?_
          exact ev_w (w2 := rz_w (rz_up v 23 (Int32.ofNat (k + 1))) (rz_ua (rz_ua a 27 (upd f _ (Int32.ofNat y))) 25 (a 25)) g) rfl (ev_ps 1 rfl (back (Int32.ofNat c) (k + 1) _ (a 25) (by omega) (rz_sm_up hf hy) hmi.2.2.2))
        refine ev_ps 5 rfl (ev_ald rfl rfl hin ?_)
        refine ev_ps 3 rfl (ev_ald rfl rfl hin ?_)
        rw [show (rz_ua a 27 f) 21 = a 21 from rfl, hd]
        refine ev_if (cd := .ne) rfl (fun h => ?_) (fun h => ?_)
        · obtain ⟨y, hy, ey⟩ := hmi.2.2.2 c hc
          refine ev_ps 3 rfl (ev_ald rfl rfl (rz_in hc (by decide)) ?_)
          rw [show (rz_ua a 27 f) 25 = a 25 from rfl, rz_clamp (k := c) (by omega), ey]
          exact fin y hy
        · exact ev_ps 2 rfl (fin 0 (by omega))
    · refine ev_ps 2 rfl (ev_call (av := [_, _]) rfl rfl rfl rfl ⟨Nat.le_of_ble_eq_true rfl, rfl⟩ ⟨Nat.le_of_ble_eq_true rfl, Nat.le_of_ble_eq_true rfl⟩ (m_does (by omega) hli) ?_)
      rintro _ _ ⟨rfl, d, y, hd3, hy, rfl⟩
      exact ev_w (w2 := rz_w (rz_up v 23 (Int32.ofNat (k + 1))) (rz_ua (rz_ua a 27 (upd f d (Int32.ofNat y))) 25 (a 25)) g) rfl (ev_ps 1 rfl (back (Int32.ofNat c) (k + 1) _ (a 25) (by omega) (rz_sm_up hf hy) hmi.2.2.2))
  refine ev_ps 3 rfl (ev_ald rfl rfl hin ?_)
  refine ev_ps 6 rfl (ev_w (w2 := rz_w (rz_up v 23 (Int32.ofNat (k + 1))) (rz_ua a 27 (a 27)) g) (by rw [← rz_succ]; rfl) ?_)
  refine ev_ps 2 rfl ?_
  refine ev_loop (α := Nat × (Nat → Int32)) (fun r => 4 - r.1) (fun r => r.1 ≤ 4 ∧ rz_sm r.2 r.1) (fun r => [some (.ref 25), some (.int (Int32.ofNat k)), some (.int (a 20 (Int32.ofNat k).toNatClampNeg)), some (.int (Int32.ofNat r.1)), none]) (fun _ => []) (fun r => rz_w (rz_up v 23 (Int32.ofNat (k + 1))) (rz_ua a 27 r.2) g) ?_ (0, a 27) ⟨Nat.zero_le _, fun j hj => absurd hj (by omega)⟩
  rintro ⟨i, f⟩ ⟨hi, hf⟩ ih
  dsimp only at hi hf ih ⊢
  refine ev_ps 2 rfl (ev_ic (cd := .ge) rfl (fun h => ?_) (fun h => ?_))
  · have h4 : 4 ≤ i := rn_ge_t (k := 4) (by omega) (by omega) h
    have : i = 4 := by omega
    subst this
    exact mid f _ hf
  · have hi' : i < 4 := rn_ge_f (k := 4) (by omega) (by omega) h
    obtain ⟨y, hy, ey⟩ := hmi.2.2.2 i (by omega)
    have ei := rz_clamp (k := i) (by omega)
    refine ev_ps 6 rfl (ev_ald rfl rfl (rz_in (by omega) (by decide)) ?_)
    refine ev_ast rfl rfl (rz_in hi' (by decide)) ?_
    have h9 := ih (i + 1, upd f i (Int32.ofNat y)) ⟨by show i + 1 ≤ 4; omega, fun j hj => by
      by_cases hji : j = i
      · exact ⟨y, hy, by simp [upd, hji]⟩
      · obtain ⟨c, hc, ec⟩ := hf j (by omega)
        exact ⟨c, hc, by simp [upd, hji]; exact ec⟩⟩ (by show 4 - (i + 1) < 4 - i; omega)
    dsimp only at h9
    rw [← rz_succ i] at h9
    refine ev_w (w2 := rz_w (rz_up v 23 (Int32.ofNat (k + 1))) (rz_ua a 27 (upd f i (Int32.ofNat y))) g) ?_ (ev_ps 2 rfl h9)
    rw [ei, ← ey]; rfl
end RZM3
