/-! the reference: run, and improving -/
section RZM5
variable {xs : Nat → Int32} {xl : Nat} {v : Nat → Int32} {a : Nat → Nat → Int32} {g : Nat → Int64}
theorem m_run (hmi : rz_mi v a) (x : Int32) : rz_C xs xl 80 [.ref 25, .int x] (rz_w v a g) (rz_mp v a g rz_pi) := by
  obtain ⟨n, hn, hv, hrows⟩ := hmi.1
  refine ev_ps 4 rfl (ev_call (av := [_, _, _]) rfl rfl rfl rfl ⟨Nat.le_of_ble_eq_true rfl, rfl⟩ ⟨Nat.le_of_ble_eq_true rfl, Nat.le_of_ble_eq_true rfl⟩ (m_in _ _ _) ?_)
  rintro _ _ ⟨⟨u2, h2, rfl⟩, rfl⟩
  refine ev_if (cd := .eq) rfl (fun e2 => ?_) (fun e2 => ?_)
  · refine ev_ps 2 rfl (ev_w (w2 := rz_w (rz_up v 20 1) a g) rfl ?_)
    refine ev_ps 2 rfl (ev_if (cd := .eq) rfl (fun h => absurd (rc_eq_t h) (show ¬ (1 : Int32) = 0 by decide)) (fun h => ?_))
    exact ev_ps 1 rfl (ev_ret rfl rfl ⟨⟨_, rfl⟩, _, _, rfl, rz_mf.rf.up (by omega) _, hmi⟩)
  · obtain ⟨-, y0, y1⟩ := h2.resolve_right (fun q => rc_eq_f e2 q.1)
    obtain ⟨l, hl, rfl⟩ := rz_le_nat (b := 500) (by decide) y0 y1
    refine ev_ps 3 rfl (ev_w (w2 := rz_w (rz_up v 20 0) a g) rfl ?_)
    refine ev_ps 2 rfl (ev_if (cd := .eq) rfl (fun h => ?_) (fun h => absurd rfl (rc_eq_f h)))
    have fin : ∀ (e : Int32) (j : Int32) (f f2 : Nat → Int32), rz_sm f2 12 → rz_mf v a (rz_up (rz_up (rz_up v 20 0) 22 e) 23 j) (rz_ua (rz_ua a 27 f) 25 f2) ∧ rz_mi (rz_up (rz_up (rz_up v 20 0) 22 e) 23 j) (rz_ua (rz_ua a 27 f) 25 f2) := fun e j f f2 hf2 =>
      ⟨((((rz_mf.rf.up (by omega) _).up (by omega) _).up (by omega) _).ua (by omega) _).ua (by omega) _, hmi.1, hmi.2.1, hmi.2.2.1, hf2⟩
    have loop : ∀ (e : Int32) (t3 : Option Value) (j : Nat) (f f2 : Nat → Int32), rz_sm f2 12 → (e = 0 → j < n) → rz_E xs xl 80 82 [some (.ref 25), some (.int (Int32.ofNat l)), some (.int (Int32.ofNat 0)), t3] [] (rz_w (rz_up (rz_up (rz_up v 20 0) 22 e) 23 (Int32.ofNat j)) (rz_ua (rz_ua a 27 f) 25 f2) g) 0 0 (rz_mp v a g rz_pi) := by
      intro e t3 j f f2 hf2 he
      refine ev_loop (α := Nat × Int32 × Option Value × Nat × (Nat → Int32) × (Nat → Int32)) (fun r => l - r.1) (fun r => r.1 ≤ l ∧ rz_sm r.2.2.2.2.2 12 ∧ (r.2.1 = 0 → r.2.2.2.1 < n)) (fun r => [some (.ref 25), some (.int (Int32.ofNat l)), some (.int (Int32.ofNat r.1)), r.2.2.1]) (fun _ => []) (fun r => rz_w (rz_up (rz_up (rz_up v 20 0) 22 r.2.1) 23 (Int32.ofNat r.2.2.2.1)) (rz_ua (rz_ua a 27 r.2.2.2.2.1) 25 r.2.2.2.2.2) g) ?_ (0, e, t3, j, f, f2) ⟨Nat.zero_le _, hf2, he⟩
      rintro ⟨k, e, t3, j, f, f2⟩ ⟨hk, hf2, he⟩ ih
      dsimp only at hk hf2 he ih ⊢
      obtain ⟨m1, m2⟩ := fin e (Int32.ofNat j) f f2 hf2
      refine ev_ps 2 rfl (ev_if (cd := .ne) rfl (fun h => ?_) (fun h => ?_))
      · exact ev_ps 1 rfl (ev_ret rfl rfl ⟨⟨_, rfl⟩, _, _, rfl, m1, m2⟩)
      · refine ev_ps 2 rfl (ev_ic (cd := .ge) rfl (fun h1 => ?_) (fun h1 => ?_))
        · exact ev_ps 1 rfl (ev_ret rfl rfl ⟨⟨_, rfl⟩, _, _, rfl, m1, m2⟩)
        · have hk' : k < l := rn_ge_f (by omega) (by omega) h1
          have hj : j < n := he (rc_ne_f h)
          refine ev_ps 5 rfl (ev_call (av := [_, _]) rfl rfl rfl rfl ⟨Nat.le_of_ble_eq_true rfl, rfl⟩ ⟨Nat.le_of_ble_eq_true rfl, Nat.le_of_ble_eq_true rfl⟩ (m_execute m2 hv hn hj (hrows j hj)) ?_)
          rintro _ _ ⟨rfl, j2, f3, f4, hj2, hf4, rfl⟩
          refine ev_w (w2 := rz_w (rz_up (rz_up (rz_up v 20 0) 22 e) 23 (Int32.ofNat j2)) (rz_ua (rz_ua a 27 f3) 25 f4) g) rfl ?_
          have next : ∀ e2 : Int32, (e2 = 0 → j2 < n) → rz_E xs xl 80 135 [some (.ref 25), some (.int (Int32.ofNat l)), some (.int (Int32.ofNat k + Int32.ofInt 1)), some (.int (Int32.ofNat j))] [.int e2, .ref 25] (rz_w (rz_up (rz_up (rz_up v 20 0) 22 e) 23 (Int32.ofNat j2)) (rz_ua (rz_ua a 27 f3) 25 f4) g) 0 0 (rz_mp v a g rz_pi) := by
            intro e3 he3
            have h9 := ih (k + 1, e3, some (.int (Int32.ofNat j)), j2, f3, f4) ⟨by show k + 1 ≤ l; omega, hf4, he3⟩ (by show l - (k + 1) < l - k; omega)
            dsimp only at h9
            rw [← rz_succ k] at h9
            exact ev_ps 1 rfl (ev_w (w2 := rz_w (rz_up (rz_up (rz_up v 20 0) 22 e3) 23 (Int32.ofNat j2)) (rz_ua (rz_ua a 27 f3) 25 f4) g) rfl (ev_ps 1 rfl h9))
          refine ev_ps 5 rfl (ev_ald rfl rfl (rz_in (by omega) (by decide)) ?_)
          refine ev_ps 1 rfl (ev_ic (cd := .eq) rfl (fun h5 => ?_) (fun h5 => ?_))
          · exact ev_ps 2 rfl (next 1 (fun q => absurd q (by decide)))
          · refine ev_ps 4 rfl (ev_ic (cd := .lt) rfl (fun h6 => ?_) (fun h6 => ?_))
            · have h6' : rz_cmp .lt (Int32.ofNat j2) (v 21) = true := h6
              rw [hv] at h6'
              exact ev_ps 1 rfl (next 0 (fun _ => rn_lt_t (by omega) (by omega) h6'))
            · exact ev_ps 2 rfl (next 1 (fun q => absurd q (by decide)))
    refine ev_ps 2 rfl (ev_w (w2 := rz_w (rz_up v 20 0) (rz_ua a 25 (a 25)) g) rfl ?_)
    refine ev_loop (α := Nat × (Nat → Int32)) (fun r => 12 - r.1) (fun r => r.1 ≤ 12 ∧ rz_sm r.2 12) (fun r => [some (.ref 25), some (.int (Int32.ofNat l)), some (.int (Int32.ofNat r.1)), none]) (fun _ => []) (fun r => rz_w (rz_up v 20 0) (rz_ua a 25 r.2) g) ?_ (0, a 25) ⟨Nat.zero_le _, hmi.2.2.2⟩
    rintro ⟨k, f2⟩ ⟨hk, hf2⟩ ih
    dsimp only at hk hf2 ih ⊢
    refine ev_ps 2 rfl (ev_ic (cd := .ge) rfl (fun h => ?_) (fun h => ?_))
    · refine ev_ps 3 rfl (ev_w (w2 := rz_w (rz_up (rz_up (rz_up v 20 0) 22 (v 22)) 23 0) (rz_ua (rz_ua a 27 (a 27)) 25 f2) g) rfl ?_)
      have go : ∀ e2 : Int32, (e2 = 0 → 0 < n) → rz_E xs xl 80 77 [some (.ref 25), some (.int (Int32.ofNat l)), some (.int (Int32.ofNat k)), none] [.int e2, .ref 25] (rz_w (rz_up (rz_up (rz_up v 20 0) 22 (v 22)) 23 0) (rz_ua (rz_ua a 27 (a 27)) 25 f2) g) 0 0 (rz_mp v a g rz_pi) := by
        intro e3 he3
        exact ev_ps 1 rfl (ev_w (w2 := rz_w (rz_up (rz_up (rz_up v 20 0) 22 e3) 23 (Int32.ofNat 0)) (rz_ua (rz_ua a 27 (a 27)) 25 f2) g) rfl (ev_ps 2 rfl (loop e3 _ 0 _ f2 hf2 he3)))
      refine ev_ps 5 rfl (ev_ic (cd := .lt) rfl (fun h6 => ?_) (fun h6 => ?_))
      · have h6' : rz_cmp .lt (Int32.ofNat 0) (v 21) = true := h6
        rw [hv] at h6'
        exact ev_ps 1 rfl (go 0 (fun _ => rn_lt_t (by omega) (by omega) h6'))
      · exact ev_ps 2 rfl (go 1 (fun q => absurd q (by decide)))
    · have hk' : k < 12 := rn_ge_f (k := 12) (by omega) (by omega) h
      obtain ⟨y, hy, ey⟩ := hmi.2.2.1 k hk'
      have ei := rz_clamp (k := k) (by omega)
      refine ev_ps 6 rfl (ev_ald rfl rfl (rz_in hk' (by decide)) ?_)
      refine ev_ast rfl rfl (rz_in hk' (by decide)) ?_
      have h9 := ih (k + 1, upd f2 k (Int32.ofNat y)) ⟨by show k + 1 ≤ 12; omega, rz_sm_up hf2 hy⟩ (by show 12 - (k + 1) < 12 - k; omega)
      dsimp only at h9
      rw [← rz_succ k] at h9
      refine ev_w (w2 := rz_w (rz_up v 20 0) (rz_ua a 25 (upd f2 k (Int32.ofNat y))) g) ?_ (ev_ps 2 rfl h9)
      rw [ei, ← ey]; rfl
theorem m_isRow {p n m : Nat} (hv : v 21 = Int32.ofNat m) (hm : m ≤ 24) (hp : p ≤ 24) (hn : n ≤ 3) : rz_C xs xl 99 [.ref 25, .int (Int32.ofNat p), .int (Int32.ofNat n)] (rz_w v a g) (rz_bo (rz_w v a g) (p + n ≤ m ∧ ∀ j, p < j → j < p + n → rz_nt a m j)) := by
  refine ev_ps 5 rfl (ev_ic (cd := .gt) rfl (fun h => ?_) (fun h => ?_))
  · exact ev_ps 1 rfl (ev_ret rfl rfl rz_bo0)
  · rw [rz_add, hv] at h
    have hle : p + n ≤ m := rn_gt_f (by omega) (by omega) h
    refine ev_ps 3 rfl (ev_call (av := [_, _, _]) rfl rfl rfl rfl ⟨Nat.le_of_ble_eq_true rfl, rfl⟩ ⟨Nat.le_of_ble_eq_true rfl, Nat.le_of_ble_eq_true rfl⟩ (m_isPlain (by omega)) ?_)
    rintro _ _ ⟨⟨u, hu, -, rfl⟩, rfl⟩
    refine ev_if (cd := .ne) rfl (fun h1 => ?_) (fun h1 => ?_)
    · refine ev_ps 6 rfl (ev_l (L2 := [some (.ref 25), some (.int (Int32.ofNat p)), some (.int (Int32.ofNat n)), some (.int 1), some (.int (Int32.ofNat (p + 1)))]) (by rw [← rz_succ]; rfl) ?_)
      by_cases hn0 : n = 0
      · subst hn0
        refine ev_ps 4 rfl (ev_ic (cd := .ge) rfl (fun h => ?_) (fun h => ?_))
        · exact ev_ps 1 rfl (ev_ret rfl rfl (rz_bo1 ⟨hle, fun j h1 h2 => absurd h2 (by omega)⟩))
        · rw [rz_add] at h
          have := rn_ge_f (by omega) (by omega) h
          omega
      refine ev_loop (α := Nat × Int32) (fun r => p + n - r.1) (fun r => r.1 ≤ p + n ∧ (r.2 = 0 ∨ r.2 = 1) ∧ (r.2 = 1 → ∀ j, p < j → j < r.1 → rz_nt a m j)) (fun r => [some (.ref 25), some (.int (Int32.ofNat p)), some (.int (Int32.ofNat n)), some (.int r.2), some (.int (Int32.ofNat r.1))]) (fun _ => []) (fun _ => rz_w v a g) ?_ (p + 1, 1) ⟨by show p + 1 ≤ p + n; omega, Or.inr rfl, fun _ j h1 h2 => absurd h2 (by show ¬ j < p + 1; omega)⟩
      rintro ⟨k, b⟩ ⟨hk, hb, hbp⟩ ih
      dsimp only at hk hb hbp ih ⊢
      have next : k < p + n → ∀ c : Int32, (c = 0 ∨ c = 1) → (c = 1 → ∀ j, p < j → j < k + 1 → rz_nt a m j) → rz_E xs xl 99 54 [some (.ref 25), some (.int (Int32.ofNat p)), some (.int (Int32.ofNat n)), some (.int b), some (.int (Int32.ofNat k))] [.int c] (rz_w v a g) 0 0 (rz_bo (rz_w v a g) (p + n ≤ m ∧ ∀ j, p < j → j < p + n → rz_nt a m j)) := fun hk' c hc hcp => by
        have h9 := ih (k + 1, c) ⟨by show k + 1 ≤ p + n; omega, hc, hcp⟩ (by show p + n - (k + 1) < p + n - k; omega)
        dsimp only at h9
        rw [← rz_succ k] at h9
        exact ev_ps 3 rfl h9
      refine ev_ps 4 rfl (ev_ic (cd := .ge) rfl (fun h => ?_) (fun h => ?_))
      · rw [rz_add] at h
        have hkn : p + n ≤ k := rn_ge_t (by omega) (by omega) h
        have : k = p + n := by omega
        subst this
        exact ev_ps 1 rfl (ev_ret rfl (show (if b = 0 ∨ b = 1 then some (some (Value.int b)) else none) = _ from if_pos hb) ⟨⟨b, hb, fun q => ⟨hle, hbp q⟩, rfl⟩, rfl⟩)
      · rw [rz_add] at h
        have hk' : k < p + n := rn_ge_f (by omega) (by omega) h
        refine ev_ps 1 rfl (ev_if (cd := .eq) rfl (fun h => ?_) (fun h => ?_))
        · exact ev_ps 1 rfl (next hk' 0 (Or.inl rfl) (fun q => absurd q (by decide)))
        · have hb1 : b = 1 := hb.resolve_left (rc_eq_f h)
          refine ev_ps 2 rfl (ev_call (av := [_, _]) rfl rfl rfl rfl ⟨Nat.le_of_ble_eq_true rfl, rfl⟩ ⟨Nat.le_of_ble_eq_true rfl, Nat.le_of_ble_eq_true rfl⟩ (m_isBegin hv hm (by omega)) ?_)
          rintro _ _ ⟨⟨u3, hu3, hP3, rfl⟩, rfl⟩
          refine ev_if (cd := .ne) rfl (fun h => ?_) (fun h => ?_)
          · exact ev_ps 1 rfl (next hk' 0 (Or.inl rfl) (fun q => absurd q (by decide)))
          · refine ev_ps 2 rfl (next hk' 1 (Or.inr rfl) (fun _ j h1 h2 => ?_))
            by_cases hjk : j = k
            · rw [hjk]; exact (hP3 (rc_ne_f h)).2
            · exact hbp hb1 j h1 (by omega)
    · exact ev_ps 1 rfl (ev_ret rfl rfl rz_bo0)
theorem m_isCandidate {p n : Nat} (x : Int32) (hp : p + n ≤ 25) : rz_C xs xl 101 [.ref 25, .int x, .int (Int32.ofNat p), .int (Int32.ofNat n)] (rz_w v a g) (rz_bo (rz_w v a g) True) := by
  have main : ∀ b : Int32, (b = 0 ∨ b = 1) → rz_E xs xl 101 20 [some (.ref 25), some (.int x), some (.int (Int32.ofNat p)), some (.int (Int32.ofNat n)), none, none] [.int b] (rz_w v a g) 0 0 (rz_bo (rz_w v a g) True) := by
    intro b hb
    refine ev_ps 3 rfl ?_
    refine ev_loop (α := Nat × Int32) (fun r => p + n - r.1) (fun r => r.1 ≤ p + n ∧ (r.2 = 0 ∨ r.2 = 1)) (fun r => [some (.ref 25), some (.int x), some (.int (Int32.ofNat p)), some (.int (Int32.ofNat n)), some (.int r.2), some (.int (Int32.ofNat r.1))]) (fun _ => []) (fun _ => rz_w v a g) ?_ (p, b) ⟨by show p ≤ p + n; omega, hb⟩
    rintro ⟨k, b⟩ ⟨hk, hb⟩ ih
    dsimp only at hk hb ih ⊢
    have next : k < p + n → ∀ c : Int32, (c = 0 ∨ c = 1) → rz_E xs xl 101 66 [some (.ref 25), some (.int x), some (.int (Int32.ofNat p)), some (.int (Int32.ofNat n)), some (.int b), some (.int (Int32.ofNat k))] [.int c] (rz_w v a g) 0 0 (rz_bo (rz_w v a g) True) := fun hk' c hc => by
      have h9 := ih (k + 1, c) ⟨by show k + 1 ≤ p + n; omega, hc⟩ (by show p + n - (k + 1) < p + n - k; omega)
      dsimp only at h9
      rw [← rz_succ k] at h9
      exact ev_ps 3 rfl h9
    refine ev_ps 4 rfl (ev_ic (cd := .ge) rfl (fun h => ?_) (fun h => ?_))
    · exact ev_ps 1 rfl (ev_ret rfl (show (if b = 0 ∨ b = 1 then some (some (Value.int b)) else none) = _ from if_pos hb) ⟨⟨b, hb, fun _ => trivial, rfl⟩, rfl⟩)
    · rw [rz_add] at h
      have hk' : k < p + n := rn_ge_f (by omega) (by omega) h
      refine ev_ps 1 rfl (ev_if (cd := .ne) rfl (fun h => ?_) (fun h => ?_))
      · exact ev_ps 2 rfl (next hk' 1 (Or.inr rfl))
      · refine ev_ps 3 rfl (ev_ald rfl rfl (rz_in (by omega) (by decide)) ?_)
        refine ev_ps 1 rfl (ev_ic (cd := .lt) rfl (fun h => ?_) (fun h => ?_))
        · exact ev_ps 1 rfl (next hk' 0 (Or.inl rfl))
        · refine ev_ps 3 rfl (ev_ald rfl rfl (rz_in (by omega) (by decide)) ?_)
          refine ev_ps 1 rfl (ev_ic (cd := .ne) rfl (fun h => ?_) (fun h => ?_))
          · exact ev_ps 1 rfl (next hk' 0 (Or.inl rfl))
          · exact ev_ps 2 rfl (next hk' 1 (Or.inr rfl))
  refine ev_ps 1 rfl (ev_if (cd := .eq) rfl (fun h => ?_) (fun h => ?_))
  · exact ev_ps 2 rfl (main 1 (Or.inr rfl))
  · refine ev_ps 2 rfl (ev_ic (cd := .eq) rfl (fun h => ?_) (fun h => ?_))
    · exact ev_ps 2 rfl (main 1 (Or.inr rfl))
    · refine ev_ps 2 rfl (ev_ic (cd := .ne) rfl (fun h => ?_) (fun h => ?_))
      · exact ev_ps 1 rfl (main 0 (Or.inl rfl))
      · exact ev_ps 2 rfl (main 1 (Or.inr rfl))
/-- but for the tried row and the two scratch arrays nothing has moved -/
def rz_ca (a a' : Nat → Nat → Int32) : Prop := (∀ i, i < 20 → a' i = a i) ∧ (∀ i, 20 ≤ i → i < 24 → ∀ k, k < 24 → a' i k = a i k) ∧ a' 24 = a 24 ∧ a' 25 = a 25 ∧ rz_li a' 24
theorem rz_ca.li {a' : Nat → Nat → Int32} (h : rz_ca a a') {k : Nat} (hk : k < 24) (hl : rz_li a k) : rz_li a' k := by
  unfold rz_li at hl ⊢
  rw [h.2.1 20 (by omega) (by omega) k hk, h.2.1 21 (by omega) (by omega) k hk, h.2.1 22 (by omega) (by omega) k hk, h.2.1 23 (by omega) (by omega) k hk]
  exact hl
theorem rz_ca.put {a' : Nat → Nat → Int32} (h : rz_ca a a') {o d s t : Int32} (hLI : rz_LI o d s t) : rz_ca a (rz_pt a' 24 o d s t) := by
  refine ⟨fun i hi => ?_, fun i hi hi2 k hk => ?_, h.2.2.1, h.2.2.2.1, rz_pt_li (fun _ => hLI) (fun q => absurd rfl q)⟩
  · have : rz_pt a' 24 o d s t i = a' i := by
      simp only [rz_pt, rz_ua]
      rw [if_neg (by omega), if_neg (by omega), if_neg (by omega), if_neg (by omega)]
    rw [this]; exact h.1 i hi
  · rw [← h.2.1 i hi hi2 k hk]
    have : i = 20 ∨ i = 21 ∨ i = 22 ∨ i = 23 := by omega
    rcases this with rfl | rfl | rfl | rfl
    · show upd (a' 20) 24 o k = _; simp only [upd]; rw [if_neg (by omega)]
    · show upd (a' 21) 24 d k = _; simp only [upd]; rw [if_neg (by omega)]
    · show upd (a' 22) 24 s k = _; simp only [upd]; rw [if_neg (by omega)]
    · show upd (a' 23) 24 t k = _; simp only [upd]; rw [if_neg (by omega)]
theorem rz_ca.ua {a' : Nat → Nat → Int32} (h : rz_ca a a') {i : Nat} (hi : 26 ≤ i) (f : Nat → Int32) : rz_ca a (rz_ua a' i f) := by
  have e : ∀ j, j < 26 → rz_ua a' i f j = a' j := fun j hj => if_neg (by omega)
  refine ⟨fun j hj => by rw [e j (by omega)]; exact h.1 j hj, fun j hj hj2 k hk => by rw [e j (by omega)]; exact h.2.1 j hj hj2 k hk, by rw [e 24 (by omega)]; exact h.2.2.1, by rw [e 25 (by omega)]; exact h.2.2.2.1, ?_⟩
  show rz_LI (rz_ua a' i f 20 24) (rz_ua a' i f 21 24) (rz_ua a' i f 22 24) (rz_ua a' i f 23 24)
  rw [e 20 (by omega), e 21 (by omega), e 22 (by omega), e 23 (by omega)]
  exact h.2.2.2.2
theorem rz_ca.mi {a' : Nat → Nat → Int32} (h : rz_ca a a') (hmi : rz_mi v a) : rz_mi v a' := by
  obtain ⟨⟨n, hn, hv, hrows⟩, h1, h2, h3⟩ := hmi
  refine ⟨⟨n, hn, hv, fun k hk => h.li (by omega) (hrows k hk)⟩, h.2.2.2.2, ?_, ?_⟩
  · rw [h.2.2.1]; exact h2
  · rw [h.2.2.2.1]; exact h3
set_option maxRecDepth 100000 in
theorem rz_kd : ∀ k, k < 1920 → Int32.ofNat k / 192 = Int32.ofNat (k / 192) ∧ 1 + (Int32.ofNat k / 64 - Int32.ofNat k / 64 / 3 * 3) = Int32.ofNat (1 + k / 64 % 3) ∧ Int32.ofNat k / 16 - Int32.ofNat k / 16 / 4 * 4 = Int32.ofNat (k / 16 % 4) ∧ Int32.ofNat k - Int32.ofNat k / 16 * 16 = Int32.ofNat (k % 16) := by decide +kernel
theorem m_isFound {p n m : Nat} (z : Int32) (hmi : rz_mi v a) (hv : v 21 = Int32.ofNat m) (hm : m ≤ 24) (hpn : p + n ≤ m) : rz_C xs xl 100 [.ref 25, .int (Int32.ofNat p), .int (Int32.ofNat n), .int z] (rz_w v a g) (fun q w' => ∃ (u y : Int32) (a' : Nat → Nat → Int32), (u = 0 ∨ u = 1) ∧ q = .inl (some (.int u)) ∧ rz_ca a a' ∧ (u = 1 → a' 20 24 < 12) ∧ w' = rz_w (rz_up v 26 y) a' g) := by
  obtain ⟨m', hm', hv', hrows⟩ := hmi.1
  have em : m' = m := (rz_eq_iff (by omega) (by omega)).mp (hv'.symm.trans hv)
  subst em
  refine ev_ps 2 rfl ?_
  refine ev_loop (α := Nat × Option Value × Option Value × Option Value × Option Value × Int32 × (Nat → Nat → Int32)) (fun r => 1920 - r.1) (fun r => r.1 ≤ 1920 ∧ rz_ca a r.2.2.2.2.2.2) (fun r => [some (.ref 25), some (.int (Int32.ofNat p)), some (.int (Int32.ofNat n)), some (.int z), some (.int (Int32.ofNat r.1)), r.2.1, r.2.2.1, r.2.2.2.1, r.2.2.2.2.1]) (fun _ => []) (fun r => rz_w (rz_up v 26 r.2.2.2.2.2.1) r.2.2.2.2.2.2 g) ?_ (0, none, none, none, none, v 26, a) ⟨Nat.zero_le _, fun _ _ => rfl, fun _ _ _ _ _ => rfl, rfl, rfl, hmi.2.1⟩
  rintro ⟨k, t5, t6, t7, t8, y, a1⟩ ⟨hk, hca⟩ ih
  dsimp only at hk hca ih ⊢
  refine ev_ps 2 rfl (ev_ic (cd := .ge) rfl (fun h => ?_) (fun h => ?_))
  · exact ev_ps 1 rfl (ev_ret rfl rfl ⟨0, y, a1, Or.inl rfl, rfl, hca, fun q => absurd q (by decide), rfl⟩)
  · have hk' : k < 1920 := rn_ge_f (k := 1920) (by omega) (by omega) h
    obtain ⟨k1, k2, k3, k4⟩ := rz_kd k hk'
    have next : ∀ (t5 t6 t7 t8 : Option Value) (y : Int32) (a1 : Nat → Nat → Int32), rz_ca a a1 → rz_E xs xl 100 112 [some (.ref 25), some (.int (Int32.ofNat p)), some (.int (Int32.ofNat n)), some (.int z), some (.int (Int32.ofNat k)), t5, t6, t7, t8] [] (rz_w (rz_up v 26 y) a1 g) 0 0 (fun q w' => ∃ (u y : Int32) (a' : Nat → Nat → Int32), (u = 0 ∨ u = 1) ∧ q = .inl (some (.int u)) ∧ rz_ca a a' ∧ (u = 1 → a' 20 24 < 12) ∧ w' = rz_w (rz_up v 26 y) a' g) := by
      intro t5 t6 t7 t8 y a1 hca
      have h9 := ih (k + 1, t5, t6, t7, t8, y, a1) ⟨by show k + 1 ≤ 1920; omega, hca⟩ (by show 1920 - (k + 1) < 1920 - k; omega)
      dsimp only at h9
      rw [← rz_succ k] at h9
      exact ev_ps 2 rfl h9
    refine ev_ps 22 rfl ?_
    refine ev_l (L2 := [some (.ref 25), some (.int (Int32.ofNat p)), some (.int (Int32.ofNat n)), some (.int z), some (.int (Int32.ofNat k)), some (.int (Int32.ofNat (k / 192))), some (.int (Int32.ofNat (1 + k / 64 % 3))), some (.int (Int32.ofNat (k / 16 % 4))), some (.int (Int32.ofNat (k % 16)))]) (by rw [← k1, ← k2, ← k3, ← k4]; rfl) ?_
    have try1 : (k / 192 ≤ 5 → k % 16 ≤ 3) → rz_E xs xl 100 73 [some (.ref 25), some (.int (Int32.ofNat p)), some (.int (Int32.ofNat n)), some (.int z), some (.int (Int32.ofNat k)), some (.int (Int32.ofNat (k / 192))), some (.int (Int32.ofNat (1 + k / 64 % 3))), some (.int (Int32.ofNat (k / 16 % 4))), some (.int (Int32.ofNat (k % 16)))] [] (rz_w (rz_up v 26 y) a1 g) 0 0 (fun q w' => ∃ (u y : Int32) (a' : Nat → Nat → Int32), (u = 0 ∨ u = 1) ∧ q = .inl (some (.int u)) ∧ rz_ca a a' ∧ (u = 1 → a' 20 24 < 12) ∧ w' = rz_w (rz_up v 26 y) a' g) := by
      intro hle
      have hLI : rz_LI (Int32.ofNat (k / 192)) (Int32.ofNat (1 + k / 64 % 3)) (Int32.ofNat (k / 16 % 4)) (Int32.ofNat (k % 16)) := ⟨_, _, _, _, rfl, rfl, rfl, rfl, by omega, by omega, by omega, by omega, hle⟩
      refine ev_ps 6 rfl ?_
      refine ev_call (av := [.ref 25, .int (Int32.ofNat 24), _, _, _, _]) rfl rfl rfl rfl ⟨Nat.le_of_ble_eq_true rfl, rfl⟩ ⟨Nat.le_of_ble_eq_true rfl, Nat.le_of_ble_eq_true rfl⟩ (m_put (k := 24) (by omega) _ _ _ _) ?_
      rintro _ _ ⟨rfl, rfl⟩
      have hca2 := hca.put hLI
      have hq : ∀ j, 24 ≤ j → j < 24 + 1 → rz_li (rz_pt a1 24 (Int32.ofNat (k / 192)) (Int32.ofNat (1 + k / 64 % 3)) (Int32.ofNat (k / 16 % 4)) (Int32.ofNat (k % 16))) j := fun j h1 h2 => by
        have h3 : j = 24 := by omega
        rw [h3]
        exact hca2.2.2.2.2
      refine ev_ps 6 rfl (ev_w (w2 := rz_w (rz_up v 26 (y + Int32.ofInt 1)) (rz_pt a1 24 (Int32.ofNat (k / 192)) (Int32.ofNat (1 + k / 64 % 3)) (Int32.ofNat (k / 16 % 4)) (Int32.ofNat (k % 16))) g) rfl ?_)
      refine ev_ps 6 rfl ?_
      refine ev_call (av := [.ref 25, .int (Int32.ofNat p), .int (Int32.ofNat n), .int (Int32.ofNat 24), .int (Int32.ofNat 1), .int z]) rfl rfl rfl rfl ⟨Nat.le_of_ble_eq_true rfl, rfl⟩ ⟨Nat.le_of_ble_eq_true rfl, Nat.le_of_ble_eq_true rfl⟩ (m_agree z (by omega) (by omega) (fun j h1 h2 => hca2.li (by omega) (hrows j (by omega))) hq) ?_
      rintro _ _ ⟨⟨u, hu, rfl⟩, f1, f2, rfl⟩
      have hca3 := (hca2.ua (i := 27) (by omega) f1).ua (i := 28) (by omega) f2
      refine ev_if (cd := .eq) rfl (fun h => next _ _ _ _ _ _ hca3) (fun h => ?_)
      refine ev_ps 1 rfl (ev_ret rfl rfl ⟨1, _, _, Or.inr rfl, rfl, hca3, fun _ => ?_, rfl⟩)
      show upd (a1 20) 24 (Int32.ofNat (k / 192)) 24 < 12
      simp only [upd, if_true]
      exact (rz_lt_iff (k := 12) (by omega) (by omega)).mpr (by omega)
    refine ev_ps 2 rfl (ev_ic (cd := .ge) rfl (fun h => ?_) (fun h => ?_))
    · have h6 : 6 ≤ k / 192 := rn_ge_t (k := 6) (by omega) (by omega) h
      refine ev_ps 4 rfl (ev_call (av := [_, _, _, _]) rfl rfl rfl rfl ⟨Nat.le_of_ble_eq_true rfl, rfl⟩ ⟨Nat.le_of_ble_eq_true rfl, Nat.le_of_ble_eq_true rfl⟩ (m_isCandidate _ (by omega)) ?_)
      rintro _ _ ⟨⟨u, hu, -, rfl⟩, rfl⟩
      exact ev_if (cd := .eq) rfl (fun h => next _ _ _ _ _ _ hca) (fun h => try1 (fun q => absurd q (by omega)))
    · refine ev_ps 2 rfl (ev_ic (cd := .ge) rfl (fun h => next _ _ _ _ _ _ hca) (fun h => ?_))
      have h4 : k % 16 < 4 := rn_ge_f (k := 4) (by omega) (by omega) h
      exact ev_ps 1 rfl (try1 (fun _ => by omega))
end RZM5
