/-! the machine (place 3), the provers' one caller -/
section RZP4
variable {xs : Nat → Int32} {xl : Nat} {v : Nat → Int32} {a : Nat → Nat → Int32} {g : Nat → Int64}
theorem rz_remIdx (c d : Int32) : ¬ ((c &&& 15) + (d &&& 31) - ((c &&& 15) + (d &&& 31)) / 8 * 8 < 0 ∨ 8 ≤ ((c &&& 15) + (d &&& 31) - ((c &&& 15) + (d &&& 31)) / 8 * 8).toNatClampNeg) := by
  obtain ⟨i, hi, e1⟩ := rz_mask c 15 (by decide)
  obtain ⟨j, hj, e2⟩ := rz_mask d 31 (by decide)
  have e1' : c &&& 15 = Int32.ofNat i := e1
  have e2' : d &&& 31 = Int32.ofNat j := e2
  rw [e1', e2', rz_add]
  have key : ∀ s, s < 47 → ¬ (Int32.ofNat s - Int32.ofNat s / 8 * 8 < 0 ∨ 8 ≤ (Int32.ofNat s - Int32.ofNat s / 8 * 8).toNatClampNeg) := by decide +kernel
  exact key (i + j) (by omega)
theorem rz_sub4 {x : Int32} (h1 : ¬ x < 4) (h2 : x < 12) : ∃ k, k < 8 ∧ x - 4 = Int32.ofNat k := by
  obtain ⟨k, hk, rfl⟩ := rz_idx (n := 12) (by decide) (fun h => h1 (Int32.lt_trans h (by decide))) h2
  have hk4 : 4 ≤ k := Nat.not_lt.mp fun q => h1 ((rz_lt_iff (k := 4) (by omega) (by omega)).mpr q)
  exact ⟨k - 4, by omega, rz_sub (n := 4) hk4⟩
theorem c_jumps (x : Int32) : rz_C xs xl 64 [.ref 3, .int x] (rz_w v a g) (fun q w' => (∃ u, (u = 0 ∨ u = 1) ∧ q = .inl (some (.int u))) ∧ w' = rz_w v a g) := by
  refine ev_ps 3 rfl (ev_call (av := [_]) rfl rfl rfl rfl ⟨Nat.le_of_ble_eq_true rfl, rfl⟩ ⟨Nat.le_of_ble_eq_true rfl, Nat.le_of_ble_eq_true rfl⟩ (c_d _) ?_)
  rintro _ _ ⟨rfl, rfl⟩
  refine ev_call (av := [_, _]) rfl rfl rfl rfl ⟨Nat.le_of_ble_eq_true rfl, rfl⟩ ⟨Nat.le_of_ble_eq_true rfl, Nat.le_of_ble_eq_true rfl⟩ (c_value _ _) ?_
  rintro _ _ ⟨rfl, rfl⟩
  refine ev_ps 4 rfl (ev_call (av := [_]) rfl rfl rfl rfl ⟨Nat.le_of_ble_eq_true rfl, rfl⟩ ⟨Nat.le_of_ble_eq_true rfl, Nat.le_of_ble_eq_true rfl⟩ (c_s _) ?_)
  rintro _ _ ⟨rfl, rfl⟩
  refine ev_call (av := [_, _]) rfl rfl rfl rfl ⟨Nat.le_of_ble_eq_true rfl, rfl⟩ ⟨Nat.le_of_ble_eq_true rfl, Nat.le_of_ble_eq_true rfl⟩ (c_value _ _) ?_
  rintro _ _ ⟨rfl, rfl⟩
  refine ev_ps 2 rfl (ev_call (av := [_]) rfl rfl rfl rfl ⟨Nat.le_of_ble_eq_true rfl, rfl⟩ ⟨Nat.le_of_ble_eq_true rfl, Nat.le_of_ble_eq_true rfl⟩ (c_operation _) ?_)
  rintro _ _ ⟨rfl, rfl⟩
  refine ev_tsw rfl (fun t ht => ?_)
  rcases rz_mem4 ht with rfl | rfl | rfl | rfl
  · exact ev_ps 1 rfl (ev_ret rfl rfl ⟨⟨_, by decide, rfl⟩, rfl⟩)
  · refine ev_ps 2 rfl (ev_ic (cd := .ne) rfl (fun h1 => ?_) (fun h1 => ?_))
    · exact ev_ps 1 rfl (ev_ret rfl rfl ⟨⟨_, by decide, rfl⟩, rfl⟩)
    · exact ev_ps 2 rfl (ev_ret rfl rfl ⟨⟨_, by decide, rfl⟩, rfl⟩)
  · refine ev_ps 2 rfl (ev_ic (cd := .eq) rfl (fun h2 => ?_) (fun h2 => ?_))
    · exact ev_ps 1 rfl (ev_ret rfl rfl ⟨⟨_, by decide, rfl⟩, rfl⟩)
    · exact ev_ps 2 rfl (ev_ret rfl rfl ⟨⟨_, by decide, rfl⟩, rfl⟩)
  · exact ev_ps 1 rfl (ev_ret rfl rfl ⟨⟨_, by decide, rfl⟩, rfl⟩)
theorem c_outcome (x : Int32) : rz_C xs xl 6 [.ref 3, .int x] (rz_w v a g) (fun q w' => (∃ u, q = .inl (some (.int u))) ∧ w' = rz_w v a g) := by
  have tail : rz_E xs xl 6 38 [some (.ref 3), some (.int x)] [] (rz_w v a g) 0 0 (fun q w' => (∃ u, q = .inl (some (.int u))) ∧ w' = rz_w v a g) := by
    refine ev_ps 1 rfl (ev_lsw rfl (fun t ht => ?_))
    rcases rz_mem3 ht with rfl | rfl | rfl
    · exact ev_ps 1 rfl (ev_ret rfl rfl ⟨⟨_, rfl⟩, rfl⟩)
    · refine ev_ps 2 rfl (ev_if (cd := .eq) rfl (fun h1 => ?_) (fun h1 => ?_))
      · exact ev_ps 1 rfl (ev_ret rfl rfl ⟨⟨_, rfl⟩, rfl⟩)
      · exact ev_ps 2 rfl (ev_ret rfl rfl ⟨⟨_, rfl⟩, rfl⟩)
    · exact ev_ps 2 rfl (ev_ret rfl rfl ⟨⟨_, rfl⟩, rfl⟩)
  have mid : rz_E xs xl 6 18 [some (.ref 3), some (.int x)] [] (rz_w v a g) 0 0 (fun q w' => (∃ u, q = .inl (some (.int u))) ∧ w' = rz_w v a g) := by
    refine ev_ps 2 rfl (ev_ic (cd := .lt) rfl (fun h1 => tail) (fun h1 => ?_))
    refine ev_ps 2 rfl (ev_ic (cd := .ge) rfl (fun h2 => tail) (fun h2 => ?_))
    obtain ⟨k, hk, e⟩ := rz_sub4 (rc_lt_f h1) (Int32.not_le.mp (rc_ge_f h2))
    refine ev_ps 5 rfl (ev_ald rfl rfl (by rw [show x - Int32.ofInt 4 = Int32.ofNat k from e]; exact rz_in hk (by decide)) ?_)
    exact ev_ret rfl rfl ⟨⟨_, rfl⟩, rfl⟩
  refine ev_ps 1 rfl (ev_if (cd := .lt) rfl (fun h1 => mid) (fun h1 => ?_))
  refine ev_ps 2 rfl (ev_ic (cd := .ge) rfl (fun h1 => mid) (fun h1 => ?_))
  refine ev_ps 3 rfl (ev_call (av := [_, _]) rfl rfl rfl rfl ⟨Nat.le_of_ble_eq_true rfl, rfl⟩ ⟨Nat.le_of_ble_eq_true rfl, Nat.le_of_ble_eq_true rfl⟩ (c_value _ _) ?_)
  rintro _ _ ⟨rfl, rfl⟩
  exact ev_ret rfl rfl ⟨⟨_, rfl⟩, rfl⟩
theorem c_setStart {k : Nat} (y : Int32) (hk : k < 12) : rz_C xs xl 60 [.ref 3, .int (Int32.ofNat k), .int y] (rz_w v a g) (fun q w' => q = .inl none ∧ ∃ r f, w' = rz_w (rz_up v 1 r) (rz_ua a 1 f) g) := by
  refine ev_ps 2 rfl (ev_ic (cd := .ge) rfl (fun h1 => ?_) (fun h1 => ?_))
  · have h4 : 4 ≤ k := rn_ge_t (k := 4) (by omega) (by omega) h1
    refine ev_ps 6 rfl (ev_ast rfl rfl (by rw [show Int32.ofNat k - Int32.ofInt 4 = Int32.ofNat (k - 4) from rz_sub (n := 4) h4]; exact rz_in (by omega) (by decide)) ?_)
    exact ev_ret rfl rfl ⟨rfl, v 1, _, rfl⟩
  · refine ev_ps 5 rfl (ev_call (av := [_, _, _]) rfl rfl rfl rfl ⟨Nat.le_of_ble_eq_true rfl, rfl⟩ ⟨Nat.le_of_ble_eq_true rfl, Nat.le_of_ble_eq_true rfl⟩ (c_with _ _ _) ?_)
    rintro _ _ ⟨⟨u, rfl⟩, rfl⟩
    exact ev_ps 2 rfl (ev_ret rfl rfl ⟨rfl, u, a 1, rfl⟩)
theorem c_step (x : Int32) : rz_C xs xl 63 [.ref 3, .int x] (rz_w v a g) (fun q w' => q = .inl none ∧ ∃ r p f, w' = rz_w (rz_up (rz_up v 2 r) 3 p) (rz_ua a 2 f) g) := by
  have main : ∀ y : Int32, rz_E xs xl 63 22 [some (.ref 3), some (.int x), none] [.int y, .ref 3] (rz_w v a g) 0 0 (fun q w' => q = .inl none ∧ ∃ r p f, w' = rz_w (rz_up (rz_up v 2 r) 3 p) (rz_ua a 2 f) g) := by
    intro y
    refine ev_ps 1 rfl (ev_w (w2 := rz_w (rz_up v 3 y) a g) rfl ?_)
    refine ev_ps 3 rfl (ev_call (av := [_]) rfl rfl rfl rfl ⟨Nat.le_of_ble_eq_true rfl, rfl⟩ ⟨Nat.le_of_ble_eq_true rfl, Nat.le_of_ble_eq_true rfl⟩ (c_s _) ?_)
    rintro _ _ ⟨rfl, rfl⟩
    refine ev_call (av := [_, _]) rfl rfl rfl rfl ⟨Nat.le_of_ble_eq_true rfl, rfl⟩ ⟨Nat.le_of_ble_eq_true rfl, Nat.le_of_ble_eq_true rfl⟩ (c_value _ _) ?_
    rintro _ _ ⟨rfl, rfl⟩
    refine ev_ps 1 rfl (ev_call (av := [_]) rfl rfl rfl rfl ⟨Nat.le_of_ble_eq_true rfl, rfl⟩ ⟨Nat.le_of_ble_eq_true rfl, Nat.le_of_ble_eq_true rfl⟩ (c_t _) ?_)
    rintro _ _ ⟨rfl, rfl⟩
    refine ev_ps 5 rfl (ev_call (av := [_]) rfl rfl rfl rfl ⟨Nat.le_of_ble_eq_true rfl, rfl⟩ ⟨Nat.le_of_ble_eq_true rfl, Nat.le_of_ble_eq_true rfl⟩ (c_operation _) ?_)
    rintro _ _ ⟨rfl, rfl⟩
    refine ev_ps 1 rfl (ev_ic (cd := .ne) rfl (fun h1 => ?_) (fun h1 => ?_))
    · refine ev_ps 1 rfl (ev_call (av := [_]) rfl rfl rfl rfl ⟨Nat.le_of_ble_eq_true rfl, rfl⟩ ⟨Nat.le_of_ble_eq_true rfl, Nat.le_of_ble_eq_true rfl⟩ (c_operation _) ?_)
      rintro _ _ ⟨rfl, rfl⟩
      refine ev_ps 1 rfl (ev_ic (cd := .ne) rfl (fun h1 => ?_) (fun h1 => ?_))
      · refine ev_ps 4 rfl (ev_call (av := [_, _]) rfl rfl rfl rfl ⟨Nat.le_of_ble_eq_true rfl, rfl⟩ ⟨Nat.le_of_ble_eq_true rfl, Nat.le_of_ble_eq_true rfl⟩ (c_regsAfter _ _) ?_)
        rintro _ _ ⟨⟨u, rfl⟩, rfl⟩
        exact ev_ps 1 rfl (ev_ret rfl rfl ⟨rfl, u, y, a 2, rfl⟩)
      · refine ev_ps 6 rfl (ev_call (av := [_]) rfl rfl rfl rfl ⟨Nat.le_of_ble_eq_true rfl, rfl⟩ ⟨Nat.le_of_ble_eq_true rfl, Nat.le_of_ble_eq_true rfl⟩ (c_d _) ?_)
        rintro _ _ ⟨rfl, rfl⟩
        refine ev_call (av := [_, _]) rfl rfl rfl rfl ⟨Nat.le_of_ble_eq_true rfl, rfl⟩ ⟨Nat.le_of_ble_eq_true rfl, Nat.le_of_ble_eq_true rfl⟩ (c_value _ _) ?_
        rintro _ _ ⟨rfl, rfl⟩
        refine ev_ast rfl rfl (rz_remIdx _ _) ?_
        exact ev_ps 1 rfl (ev_ret rfl rfl ⟨rfl, v 2, y, _, rfl⟩)
    · refine ev_ps 4 rfl (ev_call (av := [_]) rfl rfl rfl rfl ⟨Nat.le_of_ble_eq_true rfl, rfl⟩ ⟨Nat.le_of_ble_eq_true rfl, Nat.le_of_ble_eq_true rfl⟩ (c_d _) ?_)
      rintro _ _ ⟨rfl, rfl⟩
      refine ev_ps 3 rfl (ev_ald rfl rfl (rz_remIdx _ _) ?_)
      refine ev_call (av := [_, _, _]) rfl rfl rfl rfl ⟨Nat.le_of_ble_eq_true rfl, rfl⟩ ⟨Nat.le_of_ble_eq_true rfl, Nat.le_of_ble_eq_true rfl⟩ (c_with _ _ _) ?_
      rintro _ _ ⟨⟨u, rfl⟩, rfl⟩
      exact ev_ps 2 rfl (ev_ret rfl rfl ⟨rfl, u, y, a 2, rfl⟩)
  refine ev_ps 3 rfl (ev_call (av := [_, _]) rfl rfl rfl rfl ⟨Nat.le_of_ble_eq_true rfl, rfl⟩ ⟨Nat.le_of_ble_eq_true rfl, Nat.le_of_ble_eq_true rfl⟩ (c_jumps _) ?_)
  rintro _ _ ⟨⟨u, hu, rfl⟩, rfl⟩
  refine ev_if (cd := .eq) rfl (fun h1 => ?_) (fun h1 => ?_)
  · exact ev_ps 4 rfl (main _)
  · refine ev_ps 1 rfl (ev_call (av := [_]) rfl rfl rfl rfl ⟨Nat.le_of_ble_eq_true rfl, rfl⟩ ⟨Nat.le_of_ble_eq_true rfl, Nat.le_of_ble_eq_true rfl⟩ (c_t _) ?_)
    rintro _ _ ⟨rfl, rfl⟩
    exact ev_ps 1 rfl (main _)
theorem ev_cpy {M pc len x y z : Nat} {ins : Instr} {L : rz_L} {w : rz_W} {kc ks s d : Nat} {f h : Nat → Int32} {post : rz_R → rz_W → Prop} (hc : rz_code M pc = some (5, ins, len, x, y, z)) (h0 : w[s]? = some (.inl (0, 8, .inl f))) (h1 : w[d]? = some (.inl (0, 8, .inl h))) (hsd : s ≠ d)
    (k : rz_E xs xl M (pc + len) L [] (w.set d (.inl (0, 8, .inl (va_cpy f h 0 0 8)))) kc ks post) : rz_E xs xl M pc L [.int 8, .int 0, .ref d, .int 0, .ref s] w kc ks post := by
  obtain ⟨n, r, w1, e1, e2⟩ := k
  refine ⟨n + 1, r, w1, ?_, e2⟩
  rw [rz_run, hc]
  dsimp only
  rw [h0, h1]
  exact (if_pos ⟨rfl, rfl, hsd, rfl, rfl, rfl, rfl, rfl, rfl⟩).trans e1
theorem c_perform {n l : Nat} (hv : v 0 = Int32.ofNat n) (hn : n ≤ 24) (hl : l ≤ 500) : rz_C xs xl 62 [.ref 3, .ref 1, .int (Int32.ofNat l)] (rz_w v a g) (fun q w' => (∃ u, q = .inl (some (.int u))) ∧ ∃ r p e f, (e = 0 ∨ e = 1) ∧ w' = rz_w (rz_up (rz_up (rz_up v 2 r) 3 p) 4 e) (rz_ua a 2 f) g) := by
  have loop : ∀ (r p e : Int32) (f : Nat → Int32), (e = 0 ∨ e = 1) → (e = 0 → ¬ p < 0 ∧ p < v 0) → rz_E xs xl 62 50 [some (.ref 3), some (.ref 1), some (.int (Int32.ofNat l)), some (.int (Int32.ofNat 0)), none] [] (rz_w (rz_up (rz_up (rz_up v 2 r) 3 p) 4 e) (rz_ua a 2 f) g) 0 0 (fun q w' => (∃ u, q = .inl (some (.int u))) ∧ ∃ r p e f, (e = 0 ∨ e = 1) ∧ w' = rz_w (rz_up (rz_up (rz_up v 2 r) 3 p) 4 e) (rz_ua a 2 f) g) := by
    intro r p e f he hp
    refine ev_loop (α := Nat × Option Value × Int32 × Int32 × Int32 × (Nat → Int32)) (fun q => l - q.1) (fun q => q.1 ≤ l ∧ (q.2.2.2.2.1 = 0 ∨ q.2.2.2.2.1 = 1) ∧ (q.2.2.2.2.1 = 0 → ¬ q.2.2.2.1 < 0 ∧ q.2.2.2.1 < v 0)) (fun q => [some (.ref 3), some (.ref 1), some (.int (Int32.ofNat l)), some (.int (Int32.ofNat q.1)), q.2.1]) (fun _ => []) (fun q => rz_w (rz_up (rz_up (rz_up v 2 q.2.2.1) 3 q.2.2.2.1) 4 q.2.2.2.2.1) (rz_ua a 2 q.2.2.2.2.2) g) ?_ (0, none, r, p, e, f) ⟨Nat.zero_le _, he, hp⟩
    rintro ⟨k, t, r, p, e, f⟩ ⟨hk, he, hp⟩ ih
    dsimp only at hk he hp ih ⊢
    refine ev_ps 2 rfl (ev_ic (cd := .ge) rfl (fun h => ?_) (fun h => ?_))
    · exact ev_ps 1 rfl (ev_ret rfl rfl ⟨⟨_, rfl⟩, r, p, e, f, he, rfl⟩)
    · have hk' : k < l := rn_ge_f (by omega) (by omega) h
      refine ev_ps 2 rfl (ev_if (cd := .ne) rfl (fun h1 => ?_) (fun h1 => ?_))
      · exact ev_ps 1 rfl (ev_ret rfl rfl ⟨⟨_, rfl⟩, r, p, e, f, he, rfl⟩)
      · have he0 : e = 0 := rc_ne_f h1
        obtain ⟨hp0, hp1⟩ := hp he0
        rw [hv] at hp1
        obtain ⟨j, hj, rfl⟩ := rz_idx (by omega) hp0 hp1
        refine ev_ps 3 rfl (ev_call (av := [_, _]) rfl rfl rfl rfl ⟨Nat.le_of_ble_eq_true rfl, rfl⟩ ⟨Nat.le_of_ble_eq_true rfl, Nat.le_of_ble_eq_true rfl⟩ (c_codeAt (by omega)) ?_)
        rintro _ _ ⟨⟨c, rfl⟩, rfl⟩
        refine ev_ps 3 rfl (ev_call (av := [_, _]) rfl rfl rfl rfl ⟨Nat.le_of_ble_eq_true rfl, rfl⟩ ⟨Nat.le_of_ble_eq_true rfl, Nat.le_of_ble_eq_true rfl⟩ (c_step _) ?_)
        rintro _ _ ⟨rfl, r2, p2, f2, rfl⟩
        refine ev_w (w2 := rz_w (rz_up (rz_up (rz_up v 2 r2) 3 p2) 4 e) (rz_ua a 2 f2) g) rfl ?_
        have next : ∀ (e2 : Int32), (e2 = 0 ∨ e2 = 1) → (e2 = 0 → ¬ p2 < 0 ∧ p2 < v 0) → rz_E xs xl 62 105 [some (.ref 3), some (.ref 1), some (.int (Int32.ofNat l)), some (.int (Int32.ofNat k)), some (.int c)] [.int e2, .ref 3] (rz_w (rz_up (rz_up (rz_up v 2 r2) 3 p2) 4 e) (rz_ua a 2 f2) g) 0 0 (fun q w' => (∃ u, q = .inl (some (.int u))) ∧ ∃ r p e f, (e = 0 ∨ e = 1) ∧ w' = rz_w (rz_up (rz_up (rz_up v 2 r) 3 p) 4 e) (rz_ua a 2 f) g) := by
          intro e2 he2 hp2
          have h9 := ih (k + 1, some (.int c), r2, p2, e2, f2) ⟨by show k + 1 ≤ l; omega, he2, hp2⟩ (by show l - (k + 1) < l - k; omega)
          dsimp only at h9
          rw [← rz_succ k] at h9
          refine ev_put rfl rfl (Nat.le_of_ble_eq_true rfl) (by show decide (e2 = 0 ∨ e2 = 1) = true; exact decide_eq_true he2) ?_
          exact ev_w (w2 := rz_w (rz_up (rz_up (rz_up v 2 r2) 3 p2) 4 e2) (rz_ua a 2 f2) g) rfl (ev_ps 2 rfl h9)
        refine ev_ps 2 rfl (ev_call (av := [_]) rfl rfl rfl rfl ⟨Nat.le_of_ble_eq_true rfl, rfl⟩ ⟨Nat.le_of_ble_eq_true rfl, Nat.le_of_ble_eq_true rfl⟩ (c_operation _) ?_)
        rintro _ _ ⟨rfl, rfl⟩
        refine ev_ps 1 rfl (ev_ic (cd := .eq) rfl (fun h2 => ?_) (fun h2 => ?_))
        · exact ev_ps 2 rfl (next 1 (Or.inr rfl) (fun h => absurd h (by decide)))
        · refine ev_ps 3 rfl (ev_call (av := [_, _]) rfl rfl rfl rfl ⟨Nat.le_of_ble_eq_true rfl, rfl⟩ ⟨Nat.le_of_ble_eq_true rfl, Nat.le_of_ble_eq_true rfl⟩ (c_has _) ?_)
          rintro _ _ ⟨⟨u, hu, hP, rfl⟩, rfl⟩
          refine ev_if (cd := .ne) rfl (fun h3 => ?_) (fun h3 => ?_)
          · exact ev_ps 1 rfl (next 0 (Or.inl rfl) (fun _ => hP (hu.resolve_left (rc_ne_t h3))))
          · exact ev_ps 2 rfl (next 1 (Or.inr rfl) (fun h => absurd h (by decide)))
  refine ev_ps 4 rfl (ev_w (w2 := rz_w (rz_up v 2 (v 1)) a g) rfl ?_)
  refine ev_ps 7 rfl (ev_cpy rfl rfl rfl (by decide) ?_)
  refine ev_w (w2 := rz_w (rz_up v 2 (v 1)) (rz_ua a 2 (va_cpy (a 1) (a 2) 0 0 8)) g) rfl ?_
  refine ev_ps 3 rfl (ev_w (w2 := rz_w (rz_up (rz_up (rz_up v 2 (v 1)) 3 0) 4 (v 4)) (rz_ua a 2 (va_cpy (a 1) (a 2) 0 0 8)) g) rfl ?_)
  have fin : ∀ e2 : Int32, (e2 = 0 ∨ e2 = 1) → (e2 = 0 → ¬ (0 : Int32) < 0 ∧ (0 : Int32) < v 0) → rz_E xs xl 62 45 [some (.ref 3), some (.ref 1), some (.int (Int32.ofNat l)), none, none] [.int e2, .ref 3] (rz_w (rz_up (rz_up (rz_up v 2 (v 1)) 3 0) 4 (v 4)) (rz_ua a 2 (va_cpy (a 1) (a 2) 0 0 8)) g) 0 0 (fun q w' => (∃ u, q = .inl (some (.int u))) ∧ ∃ r p e f, (e = 0 ∨ e = 1) ∧ w' = rz_w (rz_up (rz_up (rz_up v 2 r) 3 p) 4 e) (rz_ua a 2 f) g) := by
    intro e2 he2 hp2
    refine ev_put rfl rfl (Nat.le_of_ble_eq_true rfl) (by show decide (e2 = 0 ∨ e2 = 1) = true; exact decide_eq_true he2) ?_
    exact ev_w (w2 := rz_w (rz_up (rz_up (rz_up v 2 (v 1)) 3 0) 4 e2) (rz_ua a 2 (va_cpy (a 1) (a 2) 0 0 8)) g) rfl (ev_ps 2 rfl (loop _ 0 e2 _ he2 hp2))
  refine ev_ps 4 rfl (ev_call (av := [_, _]) rfl rfl rfl rfl ⟨Nat.le_of_ble_eq_true rfl, rfl⟩ ⟨Nat.le_of_ble_eq_true rfl, Nat.le_of_ble_eq_true rfl⟩ (c_has _) ?_)
  rintro _ _ ⟨⟨u, hu, hP, rfl⟩, rfl⟩
  refine ev_if (cd := .ne) rfl (fun h3 => ?_) (fun h3 => ?_)
  · exact ev_ps 1 rfl (fin 0 (Or.inl rfl) (fun _ => hP (hu.resolve_left (rc_ne_t h3))))
  · exact ev_ps 2 rfl (fin 1 (Or.inr rfl) (fun h => absurd h (by decide)))
/-- n is a row's length, and the row lies in the array, or is empty -/
def rz_okr (x n : Int32) : Prop := ∃ k : Nat, k ≤ 3 ∧ n = Int32.ofNat k ∧ (k = 0 ∨ ∃ p : Nat, x = Int32.ofNat p ∧ p + k ≤ 24)
theorem c_takeFromX_9 {x n : Int32} (h : rz_okr x n) : rz_C xs xl 30 [.ref 9, .ref 1, .int x, .int n] (rz_w v a g) (fun q w' => q = .inl none ∧ ∃ k f, k ≤ 3 ∧ w' = rz_w (rz_up v 6 (Int32.ofNat k)) (rz_ua a 4 f) g) := by
  obtain ⟨k, hk, rfl, h⟩ := h
  rcases h with rfl | ⟨p, rfl, hp⟩
  · exact ev_mono (fun q w' ⟨h1, f, h2⟩ => ⟨h1, 0, f, by omega, h2⟩) (c_takeFrom0_9 x)
  · exact ev_mono (fun q w' ⟨h1, f, h2⟩ => ⟨h1, k, f, hk, h2⟩) (c_takeFrom_9 hk hp)
theorem c_takeFromX_11 {x n : Int32} (h : rz_okr x n) : rz_C xs xl 30 [.ref 11, .ref 1, .int x, .int n] (rz_w v a g) (fun q w' => q = .inl none ∧ ∃ k f, k ≤ 3 ∧ w' = rz_w (rz_up v 7 (Int32.ofNat k)) (rz_ua a 5 f) g) := by
  obtain ⟨k, hk, rfl, h⟩ := h
  rcases h with rfl | ⟨p, rfl, hp⟩
  · exact ev_mono (fun q w' ⟨h1, f, h2⟩ => ⟨h1, 0, f, by omega, h2⟩) (c_takeFrom0_11 x)
  · exact ev_mono (fun q w' ⟨h1, f, h2⟩ => ⟨h1, k, f, hk, h2⟩) (c_takeFrom_11 hk hp)
theorem c_agreeInProgram {x n y m : Int32} (z : Int32) (h1 : rz_okr x n) (h2 : rz_okr y m) : rz_C xs xl 69 [.ref 8, .ref 1, .int x, .int n, .int y, .int m, .int z] (rz_w v a g) (fun q w' => (∃ u, (u = 0 ∨ u = 1) ∧ q = .inl (some (.int u))) ∧ ∃ k1 k2 d f1 f2, k1 ≤ 3 ∧ k2 ≤ 3 ∧ w' = rz_w (rz_up (rz_up (rz_up v 6 (Int32.ofNat k1)) 7 (Int32.ofNat k2)) 5 d) (rz_ua (rz_ua a 4 f1) 5 f2) g) := by
  refine ev_ps 5 rfl (ev_call (av := [_, _, _, _]) rfl rfl rfl rfl ⟨Nat.le_of_ble_eq_true rfl, rfl⟩ ⟨Nat.le_of_ble_eq_true rfl, Nat.le_of_ble_eq_true rfl⟩ (c_takeFromX_9 h1) ?_)
  rintro _ _ ⟨rfl, k1, f1, hk1, rfl⟩
  refine ev_ps 5 rfl (ev_call (av := [_, _, _, _]) rfl rfl rfl rfl ⟨Nat.le_of_ble_eq_true rfl, rfl⟩ ⟨Nat.le_of_ble_eq_true rfl, Nat.le_of_ble_eq_true rfl⟩ (c_takeFromX_11 h2) ?_)
  rintro _ _ ⟨rfl, k2, f2, hk2, rfl⟩
  refine ev_ps 6 rfl (ev_call (av := [_]) rfl rfl rfl rfl ⟨Nat.le_of_ble_eq_true rfl, rfl⟩ ⟨Nat.le_of_ble_eq_true rfl, Nat.le_of_ble_eq_true rfl⟩ (c_maskOf _) ?_)
  rintro _ _ ⟨⟨u, rfl⟩, rfl⟩
  refine ev_call (av := [_, _, _, _]) rfl rfl rfl rfl ⟨Nat.le_of_ble_eq_true rfl, rfl⟩ ⟨Nat.le_of_ble_eq_true rfl, Nat.le_of_ble_eq_true rfl⟩ (c_agree_8 _ (n1 := k1) (n2 := k2) rfl hk1 rfl hk2) ?_
  rintro _ _ ⟨⟨u, hu, rfl⟩, d, rfl⟩
  exact ev_ret rfl (show (if u = 0 ∨ u = 1 then some (some (Value.int u)) else none) = _ from if_pos hu) ⟨⟨u, hu, rfl⟩, k1, k2, d, f1, f2, hk1, hk2, rfl⟩
end RZP4
