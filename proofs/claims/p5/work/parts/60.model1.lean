/-! the reference (place 25): its small methods -/
section RZM1
variable {xs : Nat → Int32} {xl : Nat} {v : Nat → Int32} {a : Nat → Nat → Int32} {g : Nat → Int64} {w : rz_W}
/-- a row of the reference's program -/
def rz_LI (o d s t : Int32) : Prop := ∃ o' d' s' t' : Nat, o = Int32.ofNat o' ∧ d = Int32.ofNat d' ∧ s = Int32.ofNat s' ∧ t = Int32.ofNat t' ∧ o' ≤ 15 ∧ d' ≤ 3 ∧ s' ≤ 3 ∧ t' ≤ 24 ∧ (o' ≤ 5 → t' ≤ 3)
def rz_li (a : Nat → Nat → Int32) (k : Nat) : Prop := rz_LI (a 20 k) (a 21 k) (a 22 k) (a 23 k)
def rz_sm (f : Nat → Int32) (n : Nat) : Prop := ∀ k, k < n → ∃ j : Nat, j ≤ 15 ∧ f k = Int32.ofNat j
/-- the reference's part of the world in order -/
def rz_mi (v : Nat → Int32) (a : Nat → Nat → Int32) : Prop := (∃ n : Nat, n ≤ 24 ∧ v 21 = Int32.ofNat n ∧ ∀ k, k < n → rz_li a k) ∧ rz_li a 24 ∧ rz_sm (a 24) 12 ∧ rz_sm (a 25) 12
def rz_mf (v : Nat → Int32) (a : Nat → Nat → Int32) (v' : Nat → Int32) (a' : Nat → Nat → Int32) : Prop := (∀ k, k < 20 → v' k = v k) ∧ ∀ k, k < 20 → a' k = a k
theorem rz_mf.rf : rz_mf v a v a := ⟨fun _ _ => rfl, fun _ _ => rfl⟩
theorem rz_mf.up {v' : Nat → Int32} {a' : Nat → Nat → Int32} (h : rz_mf v a v' a') {k : Nat} (hk : 20 ≤ k) (x : Int32) : rz_mf v a (rz_up v' k x) a' :=
  ⟨fun j hj => (if_neg (by omega)).trans (h.1 j hj), h.2⟩
theorem rz_mf.ua {v' : Nat → Int32} {a' : Nat → Nat → Int32} (h : rz_mf v a v' a') {k : Nat} (hk : 20 ≤ k) (f : Nat → Int32) : rz_mf v a v' (rz_ua a' k f) :=
  ⟨h.1, fun j hj => (if_neg (by omega)).trans (h.2 j hj)⟩
theorem rz_mf.tr {v1 v2 : Nat → Int32} {a1 a2 : Nat → Nat → Int32} (h : rz_mf v a v1 a1) (h2 : rz_mf v1 a1 v2 a2) : rz_mf v a v2 a2 :=
  ⟨fun j hj => (h2.1 j hj).trans (h.1 j hj), fun j hj => (h2.2 j hj).trans (h.2 j hj)⟩
def rz_mp (v : Nat → Int32) (a : Nat → Nat → Int32) (g : Nat → Int64) (P : rz_R → Prop) : rz_R → rz_W → Prop := fun q w' => P q ∧ ∃ v' a', w' = rz_w v' a' g ∧ rz_mf v a v' a' ∧ rz_mi v' a'
theorem m_in (x l h : Int32) : rz_C xs xl 73 [.int x, .int l, .int h] w (fun q w' => (∃ u : Int32, ((u = 1 ∧ ¬ x < l ∧ ¬ h < x) ∨ (u = 0 ∧ ¬ (¬ x < l ∧ ¬ h < x))) ∧ q = .inl (some (.int u))) ∧ w' = w) := by
  refine ev_ps 2 rfl (ev_ic (cd := .lt) rfl (fun h1 => ?_) (fun h1 => ?_))
  · exact ev_ps 1 rfl (ev_ret rfl rfl ⟨⟨0, Or.inr ⟨rfl, fun q => q.1 (rc_lt_t h1)⟩, rfl⟩, rfl⟩)
  · refine ev_ps 2 rfl (ev_ic (cd := .gt) rfl (fun h2 => ?_) (fun h2 => ?_))
    · exact ev_ps 1 rfl (ev_ret rfl rfl ⟨⟨0, Or.inr ⟨rfl, fun q => q.2 (rc_gt_t h2)⟩, rfl⟩, rfl⟩)
    · exact ev_ps 2 rfl (ev_ret rfl rfl ⟨⟨1, Or.inl ⟨rfl, rc_lt_f h1, rc_gt_f h2⟩, rfl⟩, rfl⟩)
def rz_bit (r : Int32) : Int32 := if r = 0 then 0 else 1 <<< (r &&& 31)
theorem m_bit (r : Int32) : rz_C xs xl 88 [.int r] w (fun q w' => q = .inl (some (.int (rz_bit r))) ∧ w' = w) := by
  refine ev_ps 1 rfl (ev_if (cd := .ne) rfl (fun h => ?_) (fun h => ?_))
  · exact ev_ps 3 rfl (ev_ret rfl rfl ⟨by rw [rz_bit, if_neg (rc_ne_t h)]; rfl, rfl⟩)
  · exact ev_ps 2 rfl (ev_ret rfl rfl ⟨by rw [rz_bit, if_pos (rc_ne_f h)]; rfl, rfl⟩)
theorem m_made (x y z : Int32) : rz_C xs xl 83 [.int x, .int y, .int z] w (fun q w' => (∃ j : Nat, j ≤ 15 ∧ q = .inl (some (.int (Int32.ofNat j)))) ∧ w' = w) := by
  have fin : ∀ t : Int32, rz_E xs xl 83 93 [some (.int x), some (.int y), some (.int z), none] [.int t] w 0 0 (fun q w' => (∃ j : Nat, j ≤ 15 ∧ q = .inl (some (.int (Int32.ofNat j)))) ∧ w' = w) := by
    intro t
    obtain ⟨j, hj, e⟩ := rz_mask t 15 (by decide)
    exact ev_ps 4 rfl (ev_ret rfl rfl ⟨⟨j, hj, by rw [← e]; rfl⟩, rfl⟩)
  refine ev_ps 1 rfl (ev_if (cd := .eq) rfl (fun h1 => ?_) (fun h1 => ?_))
  · refine ev_ps 4 rfl ?_
    exact fin _
  · refine ev_ps 2 rfl (ev_ic (cd := .ne) rfl (fun h2 => ?_) (fun h2 => ?_))
    · refine ev_ps 2 rfl (ev_ic (cd := .ne) rfl (fun h3 => ?_) (fun h3 => ?_))
      · refine ev_ps 2 rfl (ev_ic (cd := .eq) rfl (fun h4 => ?_) (fun h4 => ?_))
        · refine ev_ps 4 rfl ?_
          exact fin _
        · refine ev_ps 2 rfl (ev_ic (cd := .ne) rfl (fun h5 => ?_) (fun h5 => ?_))
          · refine ev_ps 2 rfl (ev_ic (cd := .ne) rfl (fun h6 => ?_) (fun h6 => ?_))
            · refine ev_ps 2 rfl (ev_ic (cd := .eq) rfl (fun h7 => ?_) (fun h7 => ?_))
              · refine ev_ps 4 rfl ?_
                exact fin _
              · refine ev_ps 2 rfl (ev_ic (cd := .ne) rfl (fun h8 => ?_) (fun h8 => ?_))
                · refine ev_ps 2 rfl (ev_ic (cd := .ne) rfl (fun h9 => ?_) (fun h9 => ?_))
                  · refine ev_ps 3 rfl ?_
                    exact fin _
                  · refine ev_ps 2 rfl (ev_ic (cd := .ge) rfl (fun h10 => ?_) (fun h10 => ?_))
                    · refine ev_ps 2 rfl ?_
                      exact fin _
                    · refine ev_ps 2 rfl ?_
                      exact fin _
                · refine ev_ps 4 rfl ?_
                  exact fin _
            · refine ev_ps 4 rfl ?_
              exact fin _
          · refine ev_ps 4 rfl ?_
            exact fin _
      · refine ev_ps 4 rfl ?_
        exact fin _
    · refine ev_ps 4 rfl ?_
      exact fin _
/-- the four arrays with a row put in -/
def rz_pt (a : Nat → Nat → Int32) (k : Nat) (o d s t : Int32) : Nat → Nat → Int32 := rz_ua (rz_ua (rz_ua (rz_ua a 20 (upd (a 20) k o)) 21 (upd (a 21) k d)) 22 (upd (a 22) k s)) 23 (upd (a 23) k t)
theorem rz_pt_li {k j : Nat} {o d s t : Int32} (h : j = k → rz_LI o d s t) (h2 : j ≠ k → rz_li a j) : rz_li (rz_pt a k o d s t) j := by
  show rz_LI (upd (a 20) k o j) (upd (a 21) k d j) (upd (a 22) k s j) (upd (a 23) k t j)
  by_cases hj : j = k
  · simp only [upd, hj, if_true]
    exact h hj
  · simp only [upd, hj, if_false]
    exact h2 hj
theorem rz_pt_mf {v' : Nat → Int32} {a' : Nat → Nat → Int32} {k : Nat} {o d s t : Int32} (h : rz_mf v a v' a') : rz_mf v a v' (rz_pt a' k o d s t) :=
  (((h.ua (by omega) _).ua (by omega) _).ua (by omega) _).ua (by omega) _
theorem m_put {k : Nat} (hk : k < 25) (x y z u : Int32) : rz_C xs xl 74 [.ref 25, .int (Int32.ofNat k), .int x, .int y, .int z, .int u] (rz_w v a g) (fun q w' => q = .inl none ∧ w' = rz_w v (rz_pt a k x y z u) g) := by
  have e := rz_clamp (k := k) (by omega)
  refine ev_ps 4 rfl (ev_ast rfl rfl (rz_in hk (by decide)) ?_)
  refine ev_w (w2 := rz_w v (rz_ua a 20 (upd (a 20) k x)) g) (by rw [e]; rfl) ?_
  refine ev_ps 4 rfl (ev_ast rfl rfl (rz_in hk (by decide)) ?_)
  refine ev_w (w2 := rz_w v (rz_ua (rz_ua a 20 (upd (a 20) k x)) 21 (upd (a 21) k y)) g) (by rw [e]; rfl) ?_
  refine ev_ps 4 rfl (ev_ast rfl rfl (rz_in hk (by decide)) ?_)
  refine ev_w (w2 := rz_w v (rz_ua (rz_ua (rz_ua a 20 (upd (a 20) k x)) 21 (upd (a 21) k y)) 22 (upd (a 22) k z)) g) (by rw [e]; rfl) ?_
  refine ev_ps 4 rfl (ev_ast rfl rfl (rz_in hk (by decide)) ?_)
  exact ev_ret rfl rfl ⟨rfl, by rw [e]; rfl⟩
theorem rz_le_nat {x : Int32} {b : Nat} (hb : b < 2 ^ 31) (h0 : ¬ x < 0) (h1 : ¬ Int32.ofNat b < x) : ∃ k : Nat, k ≤ b ∧ x = Int32.ofNat k := by
  obtain ⟨k, hk, rfl⟩ := rz_nat h0
  exact ⟨k, Nat.not_lt.mp fun q => h1 ((rz_lt_iff hb hk).mpr q), rfl⟩
theorem m_isInstruction (x y z u : Int32) : rz_C xs xl 72 [.int x, .int y, .int z, .int u] w (rz_bo w (rz_LI x y z u)) := by
  have no : rz_E xs xl 72 28 [some (.int x), some (.int y), some (.int z), some (.int u), none] [] w 0 0 (rz_bo w (rz_LI x y z u)) := ev_ps 1 rfl (ev_ret rfl rfl rz_bo0)
  have no2 : ∀ t, rz_E xs xl 72 103 [some (.int x), some (.int y), some (.int z), some (.int u), t] [] w 0 0 (rz_bo w (rz_LI x y z u)) := fun t => ev_ps 1 rfl (ev_ret rfl rfl rz_bo0)
  refine ev_ps 3 rfl (ev_call (av := [_, _, _]) rfl rfl rfl rfl ⟨Nat.le_of_ble_eq_true rfl, rfl⟩ ⟨Nat.le_of_ble_eq_true rfl, Nat.le_of_ble_eq_true rfl⟩ (m_in _ _ _) ?_)
  rintro _ w ⟨⟨u1, h1, rfl⟩, rfl⟩
  refine ev_if (cd := .eq) rfl (fun e => no) (fun e1 => ?_)
  obtain ⟨-, x0, x1⟩ := h1.resolve_right (fun q => rc_eq_f e1 q.1)
  refine ev_ps 3 rfl (ev_call (av := [_, _, _]) rfl rfl rfl rfl ⟨Nat.le_of_ble_eq_true rfl, rfl⟩ ⟨Nat.le_of_ble_eq_true rfl, Nat.le_of_ble_eq_true rfl⟩ (m_in _ _ _) ?_)
  rintro _ w ⟨⟨u2, h2, rfl⟩, rfl⟩
  refine ev_if (cd := .eq) rfl (fun e => no) (fun e2 => ?_)
  obtain ⟨-, y0, y1⟩ := h2.resolve_right (fun q => rc_eq_f e2 q.1)
  refine ev_ps 3 rfl (ev_call (av := [_, _, _]) rfl rfl rfl rfl ⟨Nat.le_of_ble_eq_true rfl, rfl⟩ ⟨Nat.le_of_ble_eq_true rfl, Nat.le_of_ble_eq_true rfl⟩ (m_in _ _ _) ?_)
  rintro _ w ⟨⟨u3, h3, rfl⟩, rfl⟩
  refine ev_if (cd := .ne) rfl (fun e3 => ?_) (fun e => no)
  obtain ⟨-, z0, z1⟩ := h3.resolve_right (fun q => rc_ne_t e3 q.1)
  obtain ⟨o', ho, rfl⟩ := rz_le_nat (b := 15) (by decide) x0 x1
  obtain ⟨d', hd, rfl⟩ := rz_le_nat (b := 3) (by decide) y0 y1
  obtain ⟨s', hs, rfl⟩ := rz_le_nat (b := 3) (by decide) z0 z1
  have main : ∀ b : Nat, b ≤ 24 → (o' ≤ 5 → b ≤ 3) → rz_E xs xl 72 73 [some (.int (Int32.ofNat o')), some (.int (Int32.ofNat d')), some (.int (Int32.ofNat s')), some (.int u), none] [.int (Int32.ofNat b)] w 0 0 (rz_bo w (rz_LI (Int32.ofNat o') (Int32.ofNat d') (Int32.ofNat s') u)) := by
    intro b hb hb3
    refine ev_ps 4 rfl (ev_call (av := [_, _, _]) rfl rfl rfl rfl ⟨Nat.le_of_ble_eq_true rfl, rfl⟩ ⟨Nat.le_of_ble_eq_true rfl, Nat.le_of_ble_eq_true rfl⟩ (m_in _ _ _) ?_)
    rintro _ _ ⟨⟨u4, h4, rfl⟩, rfl⟩
    refine ev_if (cd := .eq) rfl (fun e => no2 _) (fun e4 => ?_)
    obtain ⟨-, t0, t1⟩ := h4.resolve_right (fun q => rc_eq_f e4 q.1)
    obtain ⟨t', ht, rfl⟩ := rz_le_nat (b := b) (by omega) t0 t1
    have hLI : rz_LI (Int32.ofNat o') (Int32.ofNat d') (Int32.ofNat s') (Int32.ofNat t') := ⟨o', d', s', t', rfl, rfl, rfl, rfl, ho, hd, hs, by omega, fun h => by have := hb3 h; omega⟩
    refine ev_ps 2 rfl (ev_ic (cd := .lt) rfl (fun e => ?_) (fun e => ?_))
    · exact ev_ps 2 rfl (ev_ret rfl rfl (rz_bo1 hLI))
    · refine ev_ps 1 rfl (ev_if (cd := .ne) rfl (fun e => no2 _) (fun e => ?_))
      refine ev_ps 1 rfl (ev_if (cd := .ne) rfl (fun e => no2 _) (fun e => ?_))
      exact ev_ps 2 rfl (ev_ret rfl rfl (rz_bo1 hLI))
  refine ev_ps 2 rfl (ev_ic (cd := .gt) rfl (fun e5 => ?_) (fun e5 => ?_))
  · have h5 : 5 < o' := rn_gt_t (k := 5) (by omega) (by omega) e5
    refine ev_ps 2 rfl (ev_ic (cd := .gt) rfl (fun e => ?_) (fun e => ?_))
    · refine ev_ps 2 rfl (ev_ic (cd := .gt) rfl (fun e => ?_) (fun e => ?_))
      · refine ev_ps 2 rfl (ev_ic (cd := .gt) rfl (fun e => ?_) (fun e => ?_))
        · exact ev_ps 1 rfl (main 0 (by omega) (by omega))
        · exact ev_ps 2 rfl (main 24 (by omega) (by omega))
      · exact ev_ps 2 rfl (main 7 (by omega) (by omega))
    · exact ev_ps 2 rfl (main 15 (by omega) (by omega))
  · exact ev_ps 2 rfl (main 3 (by omega) (by omega))
theorem m_clear (hmi : rz_mi v a) : rz_C xs xl 76 [.ref 25] (rz_w v a g) (rz_mp v a g rz_pi) := by
  refine ev_ps 3 rfl (ev_w (w2 := rz_w (rz_up v 20 0) a g) rfl ?_)
  refine ev_ps 6 rfl (ev_w (w2 := rz_w (rz_up (rz_up v 20 0) 21 0) a g) rfl ?_)
  exact ev_ps 1 rfl (ev_ret rfl rfl ⟨⟨_, rfl⟩, _, _, rfl, (rz_mf.rf.up (by omega) _).up (by omega) _, ⟨0, by omega, rfl, fun k hk => absurd hk (by omega)⟩, hmi.2⟩)
theorem m_size (hmi : rz_mi v a) : rz_C xs xl 77 [.ref 25] (rz_w v a g) (rz_mp v a g rz_pi) := by
  refine ev_ps 3 rfl (ev_w (w2 := rz_w (rz_up v 20 0) a g) rfl ?_)
  exact ev_ps 2 rfl (ev_ret rfl rfl ⟨⟨_, rfl⟩, _, _, rfl, rz_mf.rf.up (by omega) _, hmi⟩)
theorem m_count (hmi : rz_mi v a) (x : Int32) : rz_C xs xl 103 [.ref 25, .int x] (rz_w v a g) (rz_mp v a g rz_pi) := by
  refine ev_ps 3 rfl (ev_w (w2 := rz_w (rz_up v 20 0) a g) rfl ?_)
  refine ev_ps 1 rfl (ev_if (cd := .ne) rfl (fun h1 => ?_) (fun h1 => ?_))
  · refine ev_ps 2 rfl (ev_ic (cd := .ne) rfl (fun h2 => ?_) (fun h2 => ?_))
    · refine ev_ps 2 rfl (ev_ic (cd := .ne) rfl (fun h3 => ?_) (fun h3 => ?_))
      · exact ev_ps 1 rfl (ev_ret rfl rfl ⟨⟨_, rfl⟩, _, _, rfl, rz_mf.rf.up (by omega) _, hmi⟩)
      · exact ev_ps 3 rfl (ev_ret rfl rfl ⟨⟨_, rfl⟩, _, _, rfl, rz_mf.rf.up (by omega) _, hmi⟩)
    · exact ev_ps 3 rfl (ev_ret rfl rfl ⟨⟨_, rfl⟩, _, _, rfl, rz_mf.rf.up (by omega) _, hmi⟩)
  · exact ev_ps 3 rfl (ev_ret rfl rfl ⟨⟨_, rfl⟩, _, _, rfl, rz_mf.rf.up (by omega) _, hmi⟩)
theorem m_result (hmi : rz_mi v a) (x : Int32) : rz_C xs xl 84 [.ref 25, .int x] (rz_w v a g) (rz_mp v a g rz_pi) := by
  refine ev_ps 3 rfl (ev_w (w2 := rz_w (rz_up v 20 0) a g) rfl ?_)
  refine ev_ps 2 rfl (ev_ic (cd := .ne) rfl (fun h => ?_) (fun h => ?_))
  · refine ev_ps 2 rfl (ev_ic (cd := .ne) rfl (fun h => ?_) (fun h => ?_))
    · refine ev_ps 3 rfl (ev_call (av := [_, _, _]) rfl rfl rfl rfl ⟨Nat.le_of_ble_eq_true rfl, rfl⟩ ⟨Nat.le_of_ble_eq_true rfl, Nat.le_of_ble_eq_true rfl⟩ (m_in _ _ _) ?_)
      rintro _ _ ⟨⟨u1, h1, rfl⟩, rfl⟩
      refine ev_if (cd := .eq) rfl (fun e => ?_) (fun e1 => ?_)
      · exact ev_ps 1 rfl (ev_ret rfl rfl ⟨⟨_, rfl⟩, _, _, rfl, rz_mf.rf.up (by omega) _, hmi⟩)
      · obtain ⟨-, x0, x1⟩ := h1.resolve_right (fun q => rc_eq_f e1 q.1)
        obtain ⟨k, hk, rfl⟩ := rz_le_nat (b := 11) (by decide) x0 x1
        refine ev_ps 3 rfl (ev_ald rfl rfl (rz_in (by omega) (by decide)) ?_)
        exact ev_ps 1 rfl (ev_ret rfl rfl ⟨⟨_, rfl⟩, _, _, rfl, rz_mf.rf.up (by omega) _, hmi⟩)
    · exact ev_ps 3 rfl (ev_ret rfl rfl ⟨⟨_, rfl⟩, _, _, rfl, rz_mf.rf.up (by omega) _, hmi⟩)
  · exact ev_ps 3 rfl (ev_ret rfl rfl ⟨⟨_, rfl⟩, _, _, rfl, rz_mf.rf.up (by omega) _, hmi⟩)
theorem m_start (hmi : rz_mi v a) (x y : Int32) : rz_C xs xl 79 [.ref 25, .int x, .int y] (rz_w v a g) (fun q w' => q = .inl none ∧ ∃ v' a', w' = rz_w v' a' g ∧ rz_mf v a v' a' ∧ rz_mi v' a' ∧ ((v' 20 = 0 ∧ rz_sok x y) ∨ (v' 20 = 1 ∧ ¬ rz_sok x y))) := by
  have no : ¬ rz_sok x y → rz_E xs xl 79 25 [some (.ref 25), some (.int x), some (.int y)] [.ref 25] (rz_w v a g) 0 0 (fun q w' => q = .inl none ∧ ∃ v' a', w' = rz_w v' a' g ∧ rz_mf v a v' a' ∧ rz_mi v' a' ∧ ((v' 20 = 0 ∧ rz_sok x y) ∨ (v' 20 = 1 ∧ ¬ rz_sok x y))) := by
    intro hno
    refine ev_ps 2 rfl (ev_w (w2 := rz_w (rz_up v 20 1) a g) rfl ?_)
    refine ev_ps 2 rfl (ev_if (cd := .ne) rfl (fun h => ?_) (fun h => absurd (rc_ne_f h) (show ¬ (1 : Int32) = 0 by decide)))
    exact ev_ret rfl rfl ⟨rfl, _, _, rfl, rz_mf.rf.up (by omega) _, hmi, Or.inr ⟨rfl, hno⟩⟩
  refine ev_ps 4 rfl (ev_call (av := [_, _, _]) rfl rfl rfl rfl ⟨Nat.le_of_ble_eq_true rfl, rfl⟩ ⟨Nat.le_of_ble_eq_true rfl, Nat.le_of_ble_eq_true rfl⟩ (m_in _ _ _) ?_)
  rintro _ _ ⟨⟨u1, h1, rfl⟩, rfl⟩
  refine ev_if (cd := .eq) rfl (fun e => no ?_) (fun e1 => ?_)
  · intro hok
    rcases h1 with ⟨q, -⟩ | ⟨-, q⟩
    · rw [rc_eq_t e] at q; exact absurd q (by decide)
    · refine q ⟨hok.1, ?_⟩
      intro q2
      have : x < 12 := hok.2.1
      obtain ⟨k, hk, rfl⟩ := rz_idx (n := 12) (by decide) (fun h => hok.1 (Int32.lt_trans h (by decide))) this
      have := (rz_lt_iff (n := 11) (by omega) (by omega)).mp q2
      omega
  obtain ⟨-, x0, x1⟩ := h1.resolve_right (fun q => rc_eq_f e1 q.1)
  refine ev_ps 3 rfl (ev_call (av := [_, _, _]) rfl rfl rfl rfl ⟨Nat.le_of_ble_eq_true rfl, rfl⟩ ⟨Nat.le_of_ble_eq_true rfl, Nat.le_of_ble_eq_true rfl⟩ (m_in _ _ _) ?_)
  rintro _ _ ⟨⟨u2, h2, rfl⟩, rfl⟩
  refine ev_if (cd := .eq) rfl (fun e => no ?_) (fun e2 => ?_)
  · intro hok
    rcases h2 with ⟨q, -⟩ | ⟨-, q⟩
    · rw [rc_eq_t e] at q; exact absurd q (by decide)
    · exact q ⟨hok.2.2.1, hok.2.2.2⟩
  obtain ⟨-, y0, y1⟩ := h2.resolve_right (fun q => rc_eq_f e2 q.1)
  obtain ⟨k, hk, rfl⟩ := rz_le_nat (b := 11) (by decide) (fun h => x0 (Int32.lt_trans h (by decide))) x1
  obtain ⟨j, hj, rfl⟩ := rz_le_nat (b := 15) (by decide) y0 y1
  have hok : rz_sok (Int32.ofNat k) (Int32.ofNat j) := ⟨x0, (rz_lt_iff (k := 12) (by omega) (by omega)).mpr (by omega), y0, y1⟩
  refine ev_ps 3 rfl (ev_w (w2 := rz_w (rz_up v 20 0) a g) rfl ?_)
  refine ev_ps 2 rfl (ev_if (cd := .ne) rfl (fun h => absurd rfl (rc_ne_t h)) (fun h => ?_))
  refine ev_ps 4 rfl (ev_ast rfl rfl (rz_in (by omega) (by decide)) ?_)
  refine ev_w (w2 := rz_w (rz_up v 20 0) (rz_ua a 24 (upd (a 24) k (Int32.ofNat j))) g) (by rw [rz_clamp (by omega)]; rfl) ?_
  refine ev_ret rfl rfl ⟨rfl, _, _, rfl, (rz_mf.rf.up (by omega) _).ua (by omega) _, ⟨hmi.1, hmi.2.1, ?_, hmi.2.2.2⟩, Or.inl ⟨rfl, hok⟩⟩
  intro i hi
  show ∃ j', j' ≤ 15 ∧ upd (a 24) k (Int32.ofNat j) i = Int32.ofNat j'
  by_cases hik : i = k
  · exact ⟨j, hj, by simp [upd, hik]⟩
  · obtain ⟨j', hj', e⟩ := hmi.2.2.1 i hi
    exact ⟨j', hj', by simp [upd, hik]; exact e⟩
theorem rz_sub1 {n : Nat} (hn : n ≤ 24) {x : Int32} (h0 : ¬ x < 0) (h1 : ¬ Int32.ofNat n - 1 < x) : ∃ k, k < n ∧ x = Int32.ofNat k := by
  rcases Nat.eq_zero_or_pos n with rfl | hn0
  · exact absurd (Int32.lt_of_lt_of_le (by decide : Int32.ofNat 0 - 1 < 0) (Int32.not_lt.mp h0)) h1
  · rw [show Int32.ofNat n - 1 = Int32.ofNat (n - 1) from rz_sub (n := 1) hn0] at h1
    obtain ⟨k, hk, rfl⟩ := rz_le_nat (by omega) h0 h1
    exact ⟨k, by omega, rfl⟩
theorem m_add (hmi : rz_mi v a) (x0 x1 x2 x3 : Int32) : rz_C xs xl 71 [.ref 25, .int x0, .int x1, .int x2, .int x3] (rz_w v a g) (rz_mp v a g rz_pi) := by
  have no : ∀ c : Int32, c ≠ 0 → rz_E xs xl 71 30 [some (.ref 25), some (.int x0), some (.int x1), some (.int x2), some (.int x3)] [.int c, .ref 25] (rz_w v a g) 0 0 (rz_mp v a g rz_pi) := by
    intro c hc
    refine ev_ps 1 rfl (ev_w (w2 := rz_w (rz_up v 20 c) a g) rfl ?_)
    refine ev_ps 2 rfl (ev_if (cd := .eq) rfl (fun h => absurd (rc_eq_t h) hc) (fun h => ?_))
    exact ev_ps 1 rfl (ev_ret rfl rfl ⟨⟨_, rfl⟩, _, _, rfl, rz_mf.rf.up (by omega) _, hmi⟩)
  refine ev_ps 5 rfl (ev_call (av := [_, _, _, _]) rfl rfl rfl rfl ⟨Nat.le_of_ble_eq_true rfl, rfl⟩ ⟨Nat.le_of_ble_eq_true rfl, Nat.le_of_ble_eq_true rfl⟩ (m_isInstruction _ _ _ _) ?_)
  rintro _ _ ⟨⟨u1, hu1, hP, rfl⟩, rfl⟩
  refine ev_if (cd := .ne) rfl (fun e1 => ?_) (fun e1 => ev_ps 2 rfl (no 1 (by decide)))
  have hLI := hP (hu1.resolve_left (rc_ne_t e1))
  refine ev_ps 3 rfl (ev_ic (cd := .ne) rfl (fun e2 => ?_) (fun e2 => ev_ps 2 rfl (no 2 (by decide))))
  obtain ⟨n, hn, hv, hrows⟩ := hmi.1
  have hn24 : n < 24 := by
    rcases Nat.lt_or_ge n 24 with h | h
    · exact h
    · exact absurd (by rw [hv]; exact congrArg Int32.ofNat (by omega : n = 24)) (rc_ne_t e2)
  refine ev_ps 2 rfl (ev_w (w2 := rz_w (rz_up v 20 0) a g) rfl ?_)
  refine ev_ps 2 rfl (ev_if (cd := .eq) rfl (fun h => ?_) (fun h => absurd rfl (rc_eq_f h)))
  refine ev_ps 7 rfl ?_
  refine ev_call (av := [.ref 25, .int (Int32.ofNat n), .int x0, .int x1, .int x2, .int x3]) rfl (by rw [← hv]; rfl) rfl rfl ⟨Nat.le_of_ble_eq_true rfl, rfl⟩ ⟨Nat.le_of_ble_eq_true rfl, Nat.le_of_ble_eq_true rfl⟩ (m_put (by omega) _ _ _ _) ?_
  rintro _ _ ⟨rfl, rfl⟩
  refine ev_ps 6 rfl (ev_w (w2 := rz_w (rz_up (rz_up v 20 0) 21 (Int32.ofNat (n + 1))) (rz_pt a n x0 x1 x2 x3) g) (by rw [← rz_succ n, ← hv]; rfl) ?_)
  refine ev_ps 4 rfl (ev_ret rfl rfl ⟨⟨_, rfl⟩, _, _, rfl, rz_pt_mf ((rz_mf.rf.up (by omega) _).up (by omega) _), ⟨n + 1, by omega, rfl, fun k hk => rz_pt_li (fun _ => hLI) (fun hne => hrows k (by omega))⟩, rz_pt_li (fun _ => hLI) (fun _ => hmi.2.1), hmi.2.2⟩)
theorem m_replace (hmi : rz_mi v a) (x0 x1 x2 x3 x4 : Int32) : rz_C xs xl 75 [.ref 25, .int x0, .int x1, .int x2, .int x3, .int x4] (rz_w v a g) (rz_mp v a g (fun q => q = .inl none)) := by
  have no : ∀ c : Int32, c ≠ 0 → rz_E xs xl 75 36 [some (.ref 25), some (.int x0), some (.int x1), some (.int x2), some (.int x3), some (.int x4)] [.int c, .ref 25] (rz_w v a g) 0 0 (rz_mp v a g (fun q => q = .inl none)) := by
    intro c hc
    refine ev_ps 1 rfl (ev_w (w2 := rz_w (rz_up v 20 c) a g) rfl ?_)
    refine ev_ps 2 rfl (ev_if (cd := .ne) rfl (fun h => ?_) (fun h => absurd (rc_ne_f h) hc))
    exact ev_ret rfl rfl ⟨rfl, _, _, rfl, rz_mf.rf.up (by omega) _, hmi⟩
  refine ev_ps 5 rfl (ev_call (av := [_, _, _, _]) rfl rfl rfl rfl ⟨Nat.le_of_ble_eq_true rfl, rfl⟩ ⟨Nat.le_of_ble_eq_true rfl, Nat.le_of_ble_eq_true rfl⟩ (m_isInstruction _ _ _ _) ?_)
  rintro _ _ ⟨⟨u1, hu1, hP, rfl⟩, rfl⟩
  refine ev_if (cd := .ne) rfl (fun e1 => ?_) (fun e1 => ev_ps 2 rfl (no 1 (by decide)))
  have hLI := hP (hu1.resolve_left (rc_ne_t e1))
  refine ev_ps 6 rfl (ev_call (av := [_, _, _]) rfl rfl rfl rfl ⟨Nat.le_of_ble_eq_true rfl, rfl⟩ ⟨Nat.le_of_ble_eq_true rfl, Nat.le_of_ble_eq_true rfl⟩ (m_in _ _ _) ?_)
  rintro _ _ ⟨⟨u2, h2, rfl⟩, rfl⟩
  refine ev_if (cd := .ne) rfl (fun e2 => ?_) (fun e2 => ev_ps 2 rfl (no 2 (by decide)))
  obtain ⟨-, y0, y1⟩ := h2.resolve_right (fun q => rc_ne_t e2 q.1)
  obtain ⟨n, hn, hv, hrows⟩ := hmi.1
  have y1' : ¬ v 21 - 1 < x0 := y1
  rw [hv] at y1'
  obtain ⟨k, hk, rfl⟩ := rz_sub1 hn y0 y1'
  refine ev_ps 2 rfl (ev_w (w2 := rz_w (rz_up v 20 0) a g) rfl ?_)
  refine ev_ps 2 rfl (ev_if (cd := .ne) rfl (fun h => absurd rfl (rc_ne_t h)) (fun h => ?_))
  refine ev_ps 6 rfl (ev_call (av := [_, _, _, _, _, _]) rfl rfl rfl rfl ⟨Nat.le_of_ble_eq_true rfl, rfl⟩ ⟨Nat.le_of_ble_eq_true rfl, Nat.le_of_ble_eq_true rfl⟩ (m_put (by omega) _ _ _ _) ?_)
  rintro _ _ ⟨rfl, rfl⟩
  exact ev_ret rfl rfl ⟨rfl, _, _, rfl, rz_pt_mf (rz_mf.rf.up (by omega) _), ⟨n, hn, hv, fun j hj => rz_pt_li (fun _ => hLI) (fun hne => hrows j hj)⟩, rz_pt_li (fun _ => hLI) (fun _ => hmi.2.1), hmi.2.2⟩
theorem m_instruction (hmi : rz_mi v a) (x0 x1 : Int32) : rz_C xs xl 78 [.ref 25, .int x0, .int x1] (rz_w v a g) (rz_mp v a g rz_pi) := by
  have no : ∀ c : Int32, c ≠ 0 → rz_E xs xl 78 33 [some (.ref 25), some (.int x0), some (.int x1)] [.int c, .ref 25] (rz_w v a g) 0 0 (rz_mp v a g rz_pi) := by
    intro c hc
    refine ev_ps 1 rfl (ev_w (w2 := rz_w (rz_up v 20 c) a g) rfl ?_)
    refine ev_ps 2 rfl (ev_if (cd := .eq) rfl (fun h => absurd (rc_eq_t h) hc) (fun h => ?_))
    exact ev_ps 1 rfl (ev_ret rfl rfl ⟨⟨_, rfl⟩, _, _, rfl, rz_mf.rf.up (by omega) _, hmi⟩)
  refine ev_ps 4 rfl (ev_call (av := [_, _, _]) rfl rfl rfl rfl ⟨Nat.le_of_ble_eq_true rfl, rfl⟩ ⟨Nat.le_of_ble_eq_true rfl, Nat.le_of_ble_eq_true rfl⟩ (m_in _ _ _) ?_)
  rintro _ _ ⟨⟨u1, h1, rfl⟩, rfl⟩
  refine ev_if (cd := .ne) rfl (fun e1 => ?_) (fun e1 => ev_ps 2 rfl (no 1 (by decide)))
  refine ev_ps 6 rfl (ev_call (av := [_, _, _]) rfl rfl rfl rfl ⟨Nat.le_of_ble_eq_true rfl, rfl⟩ ⟨Nat.le_of_ble_eq_true rfl, Nat.le_of_ble_eq_true rfl⟩ (m_in _ _ _) ?_)
  rintro _ _ ⟨⟨u2, h2, rfl⟩, rfl⟩
  refine ev_if (cd := .ne) rfl (fun e2 => ?_) (fun e2 => ev_ps 2 rfl (no 2 (by decide)))
  obtain ⟨-, y0, y1⟩ := h2.resolve_right (fun q => rc_ne_t e2 q.1)
  obtain ⟨n, hn, hv, hrows⟩ := hmi.1
  have y1' : ¬ v 21 - 1 < x0 := y1
  rw [hv] at y1'
  obtain ⟨k, hk, rfl⟩ := rz_sub1 hn y0 y1'
  refine ev_ps 2 rfl (ev_w (w2 := rz_w (rz_up v 20 0) a g) rfl ?_)
  refine ev_ps 2 rfl (ev_if (cd := .eq) rfl (fun h => ?_) (fun h => absurd rfl (rc_eq_f h)))
  refine ev_ps 1 rfl (ev_if (cd := .ne) rfl (fun h1 => ?_) (fun h1 => ?_))
  · refine ev_ps 2 rfl (ev_ic (cd := .ne) rfl (fun h2 => ?_) (fun h2 => ?_))
    · refine ev_ps 2 rfl (ev_ic (cd := .ne) rfl (fun h3 => ?_) (fun h3 => ?_))
      · refine ev_ps 3 rfl (ev_ald rfl rfl (rz_in (by omega) (by decide)) ?_)
        exact ev_ret rfl rfl ⟨⟨_, rfl⟩, _, _, rfl, rz_mf.rf.up (by omega) _, hmi⟩
      · refine ev_ps 3 rfl (ev_ald rfl rfl (rz_in (by omega) (by decide)) ?_)
        exact ev_ps 1 rfl (ev_ret rfl rfl ⟨⟨_, rfl⟩, _, _, rfl, rz_mf.rf.up (by omega) _, hmi⟩)
    · refine ev_ps 3 rfl (ev_ald rfl rfl (rz_in (by omega) (by decide)) ?_)
      exact ev_ps 1 rfl (ev_ret rfl rfl ⟨⟨_, rfl⟩, _, _, rfl, rz_mf.rf.up (by omega) _, hmi⟩)
  · refine ev_ps 3 rfl (ev_ald rfl rfl (rz_in (by omega) (by decide)) ?_)
    exact ev_ps 1 rfl (ev_ret rfl rfl ⟨⟨_, rfl⟩, _, _, rfl, rz_mf.rf.up (by omega) _, hmi⟩)
end RZM1
