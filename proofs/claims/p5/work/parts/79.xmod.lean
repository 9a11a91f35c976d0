/-! the reference's methods, exactly -/
section RZZ2
variable {xs : Nat → Int32} {xl : Nat} {v : Nat → Int32} {a : Nat → Nat → Int32} {g : Nat → Int64} {R : Nat → rz_Q} {n r b l : Nat}
theorem rz_sub1i {x : Int32} (hn : n ≤ 24) : (¬ x < 0 ∧ ¬ Int32.ofNat n - 1 < x) ↔ (¬ x < 0 ∧ x < Int32.ofNat n) := by
  constructor
  · rintro ⟨h0, h1⟩
    obtain ⟨k, hk, rfl⟩ := rz_sub1 hn h0 h1
    exact ⟨h0, (rz_lt_iff (by omega) (by omega)).mpr hk⟩
  · rintro ⟨h0, h1⟩
    obtain ⟨k, hk, rfl⟩ := rz_idx (by omega) h0 h1
    refine ⟨h0, ?_⟩
    rw [show Int32.ofNat n - 1 = Int32.ofNat (n - 1) from rz_sub (n := 1) (by omega), rz_lt_iff (by omega) (by omega)]
    omega
theorem m_addX (hR : rz_RR v a R n r b l) (x0 x1 x2 x3 : Int32) : rz_C xs xl 71 [.ref 25, .int x0, .int x1, .int x2, .int x3] (rz_w v a g) (rz_PM v a g (fun q v' a' => q = .inl (some (.int (if rz_ka x0 x1 x2 x3 n = 0 then Int32.ofNat n else 0))) ∧ v' 20 = rz_ka x0 x1 x2 x3 n ∧ rz_ks v a v' a') (rz_Ra R n (rz_qq x0 x1 x2 x3) (rz_ka x0 x1 x2 x3 n)) (rz_nag n (rz_ka x0 x1 x2 x3 n)) r b l) := by
  have no : ∀ c : Int32, c ≠ 0 → rz_ka x0 x1 x2 x3 n = c → rz_E xs xl 71 30 [some (.ref 25), some (.int x0), some (.int x1), some (.int x2), some (.int x3)] [.int c, .ref 25] (rz_w v a g) 0 0 (rz_PM v a g (fun q v' a' => q = .inl (some (.int (if rz_ka x0 x1 x2 x3 n = 0 then Int32.ofNat n else 0))) ∧ v' 20 = rz_ka x0 x1 x2 x3 n ∧ rz_ks v a v' a') (rz_Ra R n (rz_qq x0 x1 x2 x3) (rz_ka x0 x1 x2 x3 n)) (rz_nag n (rz_ka x0 x1 x2 x3 n)) r b l) := by
    intro c hc e
    rw [e]
    refine ev_ps 1 rfl (ev_w (w2 := rz_w (rz_up v 20 c) a g) rfl ?_)
    refine ev_ps 2 rfl (ev_if (cd := .eq) rfl (fun h => absurd (rc_eq_t h) hc) (fun h => ?_))
    refine ev_ps 1 rfl (ev_ret rfl rfl ⟨_, _, rfl, ⟨by rw [if_neg hc]; rfl, rfl, rz_ks.rf⟩, rz_mf.rf.up (by omega) _, ?_⟩)
    rw [rz_Ra, if_neg hc, rz_nag, if_neg hc]
    exact hR
  refine ev_ps 5 rfl (ev_call (av := [_, _, _, _]) rfl rfl rfl rfl ⟨Nat.le_of_ble_eq_true rfl, rfl⟩ ⟨Nat.le_of_ble_eq_true rfl, Nat.le_of_ble_eq_true rfl⟩ (m_isInstructionX _ _ _ _) ?_)
  rintro _ _ ⟨⟨u1, hu1, hui, rfl⟩, rfl⟩
  refine ev_if (cd := .ne) rfl (fun e1 => ?_) (fun e1 => ?_)
  rotate_left
  · have hno : ¬ rz_okq x0 x1 x2 x3 := fun z => absurd ((rc_ne_f e1).symm.trans (hui.mpr z)) (by decide)
    exact ev_ps 2 rfl (no 1 (by decide) (by rw [rz_ka, rz_dc_f hno]; rfl))
  have hok := hui.mp (hu1.resolve_left (rc_ne_t e1))
  have hn := hR.1
  have hv := hR.2.1
  refine ev_ps 3 rfl (ev_ic (cd := .ne) rfl (fun e2 => ?_) (fun e2 => ?_))
  rotate_left
  · have h24 : ¬ n < 24 := fun z => by
      have e3 := rc_ne_f e2
      rw [hv] at e3
      have := (rz_eq_iff (k := 24) (by omega) (by omega)).mp e3
      omega
    exact ev_ps 2 rfl (no 2 (by decide) (by rw [rz_ka, rz_dc_t hok, if_pos rfl, if_neg h24]))
  have hn24 : n < 24 := by
    rcases Nat.lt_or_ge n 24 with h | h
    · exact h
    · exact absurd (by rw [hv]; exact congrArg Int32.ofNat (by omega : n = 24)) (rc_ne_t e2)
  have e : rz_ka x0 x1 x2 x3 n = 0 := by rw [rz_ka, rz_dc_t hok, if_pos rfl, if_pos hn24]
  rw [e]
  obtain ⟨hlg, q1, q2, q3, q4⟩ := rz_okq_lg hok
  refine ev_ps 2 rfl (ev_w (w2 := rz_w (rz_up v 20 0) a g) rfl ?_)
  refine ev_ps 2 rfl (ev_if (cd := .eq) rfl (fun h => ?_) (fun h => absurd rfl (rc_eq_f h)))
  refine ev_ps 7 rfl ?_
  refine ev_call (av := [.ref 25, .int (Int32.ofNat n), .int x0, .int x1, .int x2, .int x3]) rfl (by rw [← hv]; rfl) rfl rfl ⟨Nat.le_of_ble_eq_true rfl, rfl⟩ ⟨Nat.le_of_ble_eq_true rfl, Nat.le_of_ble_eq_true rfl⟩ (m_put (by omega) _ _ _ _) ?_
  rintro _ _ ⟨rfl, rfl⟩
  refine ev_ps 6 rfl (ev_w (w2 := rz_w (rz_up (rz_up v 20 0) 21 (Int32.ofNat (n + 1))) (rz_pt a n x0 x1 x2 x3) g) (by rw [← rz_succ n, ← hv]; rfl) ?_)
  refine ev_ps 4 rfl (ev_ret rfl rfl ⟨_, _, rfl, ⟨?_, rfl, rz_ks.rf⟩, rz_pt_mf ((rz_mf.rf.up (by omega) _).up (by omega) _), rz_RR.add (v := rz_up v 20 0) hR hn24 hlg ⟨q1, q2, q3, q4⟩⟩)
  have e9 : Int32.ofNat (n + 1) - 1 = Int32.ofNat n := rz_sub (k := n + 1) (n := 1) (by omega)
  rw [if_pos rfl]
  exact congrArg (fun z => (Sum.inl (some (Value.int z)) : rz_R)) e9
theorem m_replaceX (hR : rz_RR v a R n r b l) (x0 x1 x2 x3 x4 : Int32) : rz_C xs xl 75 [.ref 25, .int x0, .int x1, .int x2, .int x3, .int x4] (rz_w v a g) (rz_PM v a g (fun q v' a' => q = .inl none ∧ v' 20 = rz_kr x0 x1 x2 x3 x4 n ∧ rz_ks v a v' a') (rz_Ra R x0.toNatClampNeg (rz_qq x1 x2 x3 x4) (rz_kr x0 x1 x2 x3 x4 n)) n r b l) := by
  have no : ∀ c : Int32, c ≠ 0 → rz_kr x0 x1 x2 x3 x4 n = c → rz_E xs xl 75 36 [some (.ref 25), some (.int x0), some (.int x1), some (.int x2), some (.int x3), some (.int x4)] [.int c, .ref 25] (rz_w v a g) 0 0 (rz_PM v a g (fun q v' a' => q = .inl none ∧ v' 20 = rz_kr x0 x1 x2 x3 x4 n ∧ rz_ks v a v' a') (rz_Ra R x0.toNatClampNeg (rz_qq x1 x2 x3 x4) (rz_kr x0 x1 x2 x3 x4 n)) n r b l) := by
    intro c hc e
    rw [e]
    refine ev_ps 1 rfl (ev_w (w2 := rz_w (rz_up v 20 c) a g) rfl ?_)
    refine ev_ps 2 rfl (ev_if (cd := .ne) rfl (fun h => ?_) (fun h => absurd (rc_ne_f h) hc))
    refine ev_ret rfl rfl ⟨_, _, rfl, ⟨rfl, rfl, rz_ks.rf⟩, rz_mf.rf.up (by omega) _, ?_⟩
    rw [rz_Ra, if_neg hc]
    exact hR
  refine ev_ps 5 rfl (ev_call (av := [_, _, _, _]) rfl rfl rfl rfl ⟨Nat.le_of_ble_eq_true rfl, rfl⟩ ⟨Nat.le_of_ble_eq_true rfl, Nat.le_of_ble_eq_true rfl⟩ (m_isInstructionX _ _ _ _) ?_)
  rintro _ _ ⟨⟨u1, hu1, hui, rfl⟩, rfl⟩
  refine ev_if (cd := .ne) rfl (fun e1 => ?_) (fun e1 => ?_)
  rotate_left
  · have hno : ¬ rz_okq x1 x2 x3 x4 := fun z => absurd ((rc_ne_f e1).symm.trans (hui.mpr z)) (by decide)
    exact ev_ps 2 rfl (no 1 (by decide) (by rw [rz_kr, rz_dc_f hno]; rfl))
  have hok := hui.mp (hu1.resolve_left (rc_ne_t e1))
  have hn := hR.1
  have hv := hR.2.1
  refine ev_ps 6 rfl (ev_call (av := [_, _, _]) rfl rfl rfl rfl ⟨Nat.le_of_ble_eq_true rfl, rfl⟩ ⟨Nat.le_of_ble_eq_true rfl, Nat.le_of_ble_eq_true rfl⟩ (m_in _ _ _) ?_)
  rintro _ _ ⟨⟨u2, h2, rfl⟩, rfl⟩
  have h2' : (u2 = 1 ∧ ¬ x0 < 0 ∧ ¬ v 21 - 1 < x0) ∨ (u2 = 0 ∧ ¬ (¬ x0 < 0 ∧ ¬ v 21 - 1 < x0)) := h2
  rw [hv, rz_sub1i hn] at h2'
  refine ev_if (cd := .ne) rfl (fun e2 => ?_) (fun e2 => ?_)
  rotate_left
  · have hin : ¬ (¬ x0 < 0 ∧ x0 < Int32.ofNat n) := h2'.elim (fun z => absurd ((rc_ne_f e2).symm.trans z.1) (by decide)) (fun z => z.2)
    exact ev_ps 2 rfl (no 2 (by decide) (by rw [rz_kr, rz_dc_t hok, if_pos rfl, rz_dc_f hin, if_neg (by decide)]))
  have hin := (h2'.resolve_right (fun q => rc_ne_t e2 q.1)).2
  have e : rz_kr x0 x1 x2 x3 x4 n = 0 := by rw [rz_kr, rz_dc_t hok, if_pos rfl, rz_dc_t hin, if_pos rfl]
  rw [e]
  obtain ⟨hlg, q1, q2, q3, q4⟩ := rz_okq_lg hok
  obtain ⟨k, hk, rfl⟩ := rz_idx (by omega) hin.1 hin.2
  refine ev_ps 2 rfl (ev_w (w2 := rz_w (rz_up v 20 0) a g) rfl ?_)
  refine ev_ps 2 rfl (ev_if (cd := .ne) rfl (fun h => absurd rfl (rc_ne_t h)) (fun h => ?_))
  refine ev_ps 6 rfl (ev_call (av := [_, _, _, _, _, _]) rfl rfl rfl rfl ⟨Nat.le_of_ble_eq_true rfl, rfl⟩ ⟨Nat.le_of_ble_eq_true rfl, Nat.le_of_ble_eq_true rfl⟩ (m_put (by omega) _ _ _ _) ?_)
  rintro _ _ ⟨rfl, rfl⟩
  refine ev_ret rfl rfl ⟨_, _, rfl, ⟨rfl, rfl, rz_ks.rf⟩, rz_pt_mf (rz_mf.rf.up (by omega) _), ?_⟩
  rw [rz_clamp (k := k) (by omega)]
  exact rz_RR.put (v := rz_up v 20 0) hR hlg ⟨q1, q2, q3, q4⟩
theorem m_clearX (hR : rz_RR v a R n r b l) : rz_C xs xl 76 [.ref 25] (rz_w v a g) (rz_PM v a g (fun q v' a' => q = .inl (some (.int (Int32.ofNat n))) ∧ rz_ks v a v' a') R 0 r b l) := by
  refine ev_ps 3 rfl (ev_w (w2 := rz_w (rz_up v 20 0) a g) rfl ?_)
  refine ev_ps 6 rfl (ev_w (w2 := rz_w (rz_up (rz_up v 20 0) 21 0) a g) rfl ?_)
  refine ev_ps 1 rfl (ev_ret rfl rfl ⟨_, _, rfl, ⟨?_, rz_ks.rf⟩, (rz_mf.rf.up (by omega) _).up (by omega) _, by omega, rfl, fun k hk => absurd hk (Nat.not_lt_zero _), fun k hk => absurd hk (Nat.not_lt_zero _), hR.2.2.2.2⟩)
  exact congrArg (fun z => (Sum.inl (some (Value.int z)) : rz_R)) hR.2.1
theorem m_sizeX (hR : rz_RR v a R n r b l) : rz_C xs xl 77 [.ref 25] (rz_w v a g) (rz_PM v a g (fun q v' a' => q = .inl (some (.int (Int32.ofNat n))) ∧ rz_ks v a v' a') R n r b l) := by
  refine ev_ps 3 rfl (ev_w (w2 := rz_w (rz_up v 20 0) a g) rfl ?_)
  refine ev_ps 2 rfl (ev_ret rfl rfl ⟨_, _, rfl, ⟨?_, rz_ks.rf⟩, rz_mf.rf.up (by omega) _, hR⟩)
  exact congrArg (fun z => (Sum.inl (some (Value.int z)) : rz_R)) hR.2.1
theorem m_countX (hR : rz_RR v a R n r b l) (x : Int32) : rz_C xs xl 103 [.ref 25, .int x] (rz_w v a g) (rz_PM v a g (fun q v' a' => q = .inl (some (.int (rz_cn x r b l))) ∧ rz_ks v a v' a') R n r b l) := by
  obtain ⟨-, -, -, -, -, -, -, hr, hb, hl⟩ := id hR
  refine ev_ps 3 rfl (ev_w (w2 := rz_w (rz_up v 20 0) a g) rfl ?_)
  refine ev_ps 1 rfl (ev_if (cd := .ne) rfl (fun h1 => ?_) (fun h1 => ?_))
  · refine ev_ps 2 rfl (ev_ic (cd := .ne) rfl (fun h2 => ?_) (fun h2 => ?_))
    · refine ev_ps 2 rfl (ev_ic (cd := .ne) rfl (fun h3 => ?_) (fun h3 => ?_))
      · exact ev_ps 1 rfl (ev_ret rfl rfl ⟨_, _, rfl, ⟨by rw [rz_cn, if_neg (show ¬ x = 0 from rc_ne_t h1), if_neg (show ¬ x = 1 from rc_ne_t h2), if_neg (show ¬ x = 2 from rc_ne_t h3)]; rfl, rz_ks.rf⟩, rz_mf.rf.up (by omega) _, hR⟩)
      · exact ev_ps 3 rfl (ev_ret rfl rfl ⟨_, _, rfl, ⟨by rw [rz_cn, if_neg (show ¬ x = 0 from rc_ne_t h1), if_neg (show ¬ x = 1 from rc_ne_t h2), if_pos (show x = 2 from rc_ne_f h3), ← hl]; rfl, rz_ks.rf⟩, rz_mf.rf.up (by omega) _, hR⟩)
    · exact ev_ps 3 rfl (ev_ret rfl rfl ⟨_, _, rfl, ⟨by rw [rz_cn, if_neg (show ¬ x = 0 from rc_ne_t h1), if_pos (show x = 1 from rc_ne_f h2), ← hb]; rfl, rz_ks.rf⟩, rz_mf.rf.up (by omega) _, hR⟩)
  · exact ev_ps 3 rfl (ev_ret rfl rfl ⟨_, _, rfl, ⟨by rw [rz_cn, if_pos (show x = 0 from rc_ne_f h1), ← hr]; rfl, rz_ks.rf⟩, rz_mf.rf.up (by omega) _, hR⟩)
theorem m_instructionX (hR : rz_RR v a R n r b l) (x0 x1 : Int32) : rz_C xs xl 78 [.ref 25, .int x0, .int x1] (rz_w v a g) (rz_PM v a g (fun q v' a' => q = .inl (some (.int (if rz_ki x0 x1 n = 0 then rz_part (R x0.toNatClampNeg) x1 else 0))) ∧ v' 20 = rz_ki x0 x1 n ∧ rz_ks v a v' a') R n r b l) := by
  have no : ∀ c : Int32, c ≠ 0 → rz_ki x0 x1 n = c → rz_E xs xl 78 33 [some (.ref 25), some (.int x0), some (.int x1)] [.int c, .ref 25] (rz_w v a g) 0 0 (rz_PM v a g (fun q v' a' => q = .inl (some (.int (if rz_ki x0 x1 n = 0 then rz_part (R x0.toNatClampNeg) x1 else 0))) ∧ v' 20 = rz_ki x0 x1 n ∧ rz_ks v a v' a') R n r b l) := by
    intro c hc e
    rw [e]
    refine ev_ps 1 rfl (ev_w (w2 := rz_w (rz_up v 20 c) a g) rfl ?_)
    refine ev_ps 2 rfl (ev_if (cd := .eq) rfl (fun h => absurd (rc_eq_t h) hc) (fun h => ?_))
    exact ev_ps 1 rfl (ev_ret rfl rfl ⟨_, _, rfl, ⟨by rw [if_neg hc]; rfl, rfl, rz_ks.rf⟩, rz_mf.rf.up (by omega) _, hR⟩)
  have hn := hR.1
  have hv := hR.2.1
  refine ev_ps 4 rfl (ev_call (av := [_, _, _]) rfl rfl rfl rfl ⟨Nat.le_of_ble_eq_true rfl, rfl⟩ ⟨Nat.le_of_ble_eq_true rfl, Nat.le_of_ble_eq_true rfl⟩ (m_in _ _ _) ?_)
  rintro _ _ ⟨⟨u1, h1, rfl⟩, rfl⟩
  refine ev_if (cd := .ne) rfl (fun e1 => ?_) (fun e1 => ?_)
  rotate_left
  · have hno : ¬ (¬ x1 < 0 ∧ ¬ 3 < x1) := h1.elim (fun z => absurd ((rc_ne_f e1).symm.trans z.1) (by decide)) (fun z => z.2)
    exact ev_ps 2 rfl (no 1 (by decide) (by rw [rz_ki, rz_dc_f hno]; rfl))
  have hw : ¬ x1 < 0 ∧ ¬ 3 < x1 := (h1.resolve_right (fun q => rc_ne_t e1 q.1)).2
  refine ev_ps 6 rfl (ev_call (av := [_, _, _]) rfl rfl rfl rfl ⟨Nat.le_of_ble_eq_true rfl, rfl⟩ ⟨Nat.le_of_ble_eq_true rfl, Nat.le_of_ble_eq_true rfl⟩ (m_in _ _ _) ?_)
  rintro _ _ ⟨⟨u2, h2, rfl⟩, rfl⟩
  have h2' : (u2 = 1 ∧ ¬ x0 < 0 ∧ ¬ v 21 - 1 < x0) ∨ (u2 = 0 ∧ ¬ (¬ x0 < 0 ∧ ¬ v 21 - 1 < x0)) := h2
  rw [hv, rz_sub1i hn] at h2'
  refine ev_if (cd := .ne) rfl (fun e2 => ?_) (fun e2 => ?_)
  rotate_left
  · have hin : ¬ (¬ x0 < 0 ∧ x0 < Int32.ofNat n) := h2'.elim (fun z => absurd ((rc_ne_f e2).symm.trans z.1) (by decide)) (fun z => z.2)
    exact ev_ps 2 rfl (no 2 (by decide) (by rw [rz_ki, rz_dc_t hw, if_pos rfl, rz_dc_f hin, if_neg (by decide)]))
  have hin := (h2'.resolve_right (fun q => rc_ne_t e2 q.1)).2
  have e : rz_ki x0 x1 n = 0 := by rw [rz_ki, rz_dc_t hw, if_pos rfl, rz_dc_t hin, if_pos rfl]
  rw [e]
  obtain ⟨k, hk, rfl⟩ := rz_idx (by omega) hin.1 hin.2
  obtain ⟨q1, q2, q3, q4⟩ := hR.2.2.1 k hk
  have ek := rz_clamp (k := k) (by omega)
  refine ev_ps 2 rfl (ev_w (w2 := rz_w (rz_up v 20 0) a g) rfl ?_)
  refine ev_ps 2 rfl (ev_if (cd := .eq) rfl (fun h => ?_) (fun h => absurd rfl (rc_eq_f h)))
  refine ev_ps 1 rfl (ev_if (cd := .ne) rfl (fun h1 => ?_) (fun h1 => ?_))
  · refine ev_ps 2 rfl (ev_ic (cd := .ne) rfl (fun h2 => ?_) (fun h2 => ?_))
    · refine ev_ps 2 rfl (ev_ic (cd := .ne) rfl (fun h3 => ?_) (fun h3 => ?_))
      · refine ev_ps 3 rfl (ev_ald rfl rfl (rz_in (by omega) (by decide)) ?_)
        rw [ek, q4]
        exact ev_ret rfl rfl ⟨_, _, rfl, ⟨by rw [if_pos rfl, rz_part, if_neg (show ¬ x1 = 0 from rc_ne_t h1), if_neg (show ¬ x1 = 1 from rc_ne_t h2), if_neg (show ¬ x1 = 2 from rc_ne_t h3)], rfl, rz_ks.rf⟩, rz_mf.rf.up (by omega) _, hR⟩
      · refine ev_ps 3 rfl (ev_ald rfl rfl (rz_in (by omega) (by decide)) ?_)
        rw [ek, q3]
        exact ev_ps 1 rfl (ev_ret rfl rfl ⟨_, _, rfl, ⟨by rw [if_pos rfl, rz_part, if_neg (show ¬ x1 = 0 from rc_ne_t h1), if_neg (show ¬ x1 = 1 from rc_ne_t h2), if_pos (show x1 = 2 from rc_ne_f h3)], rfl, rz_ks.rf⟩, rz_mf.rf.up (by omega) _, hR⟩)
    · refine ev_ps 3 rfl (ev_ald rfl rfl (rz_in (by omega) (by decide)) ?_)
      rw [ek, q2]
      exact ev_ps 1 rfl (ev_ret rfl rfl ⟨_, _, rfl, ⟨by rw [if_pos rfl, rz_part, if_neg (show ¬ x1 = 0 from rc_ne_t h1), if_pos (show x1 = 1 from rc_ne_f h2)], rfl, rz_ks.rf⟩, rz_mf.rf.up (by omega) _, hR⟩)
  · refine ev_ps 3 rfl (ev_ald rfl rfl (rz_in (by omega) (by decide)) ?_)
    rw [ek, q1]
    exact ev_ps 1 rfl (ev_ret rfl rfl ⟨_, _, rfl, ⟨by rw [if_pos rfl, rz_part, if_pos (show x1 = 0 from rc_ne_f h1)], rfl, rz_ks.rf⟩, rz_mf.rf.up (by omega) _, hR⟩)
theorem m_liveX (hR : rz_RR v a R n r b l) (x : Int32) : rz_C xs xl 85 [.ref 25, .int x] (rz_w v a g) (rz_PM v a g (fun q v' a' => q = .inl (some (.int (if rz_kl x n = 0 then rz_S R n x.toNatClampNeg else 0))) ∧ v' 20 = rz_kl x n ∧ rz_ks v a v' a') R n r b l) := by
  have hn := hR.1
  have hv := hR.2.1
  refine ev_ps 5 rfl (ev_call (av := [_, _, _]) rfl rfl rfl rfl ⟨Nat.le_of_ble_eq_true rfl, rfl⟩ ⟨Nat.le_of_ble_eq_true rfl, Nat.le_of_ble_eq_true rfl⟩ (m_in _ _ _) ?_)
  rintro _ _ ⟨⟨u2, h2, rfl⟩, rfl⟩
  have h2' : (u2 = 1 ∧ ¬ x < 0 ∧ ¬ v 21 < x) ∨ (u2 = 0 ∧ ¬ (¬ x < 0 ∧ ¬ v 21 < x)) := h2
  rw [hv] at h2'
  refine ev_if (cd := .eq) rfl (fun e2 => ?_) (fun e2 => ?_)
  · have hin : ¬ (¬ x < 0 ∧ ¬ Int32.ofNat n < x) := h2'.elim (fun z => absurd ((rc_eq_t e2).symm.trans z.1) (by decide)) (fun z => z.2)
    have e : rz_kl x n = 1 := by rw [rz_kl, rz_dc_f hin]; rfl
    rw [e]
    refine ev_ps 2 rfl (ev_w (w2 := rz_w (rz_up v 20 1) a g) rfl ?_)
    refine ev_ps 2 rfl (ev_if (cd := .eq) rfl (fun h => absurd (rc_eq_t h) (show ¬ (1 : Int32) = 0 by decide)) (fun h => ?_))
    exact ev_ps 1 rfl (ev_ret rfl rfl ⟨_, _, rfl, ⟨rfl, rfl, rz_ks.rf⟩, rz_mf.rf.up (by omega) _, hR⟩)
  · have hin := (h2'.resolve_right (fun q => rc_eq_f e2 q.1)).2
    have e : rz_kl x n = 0 := by rw [rz_kl, rz_dc_t hin, if_pos rfl]
    rw [e]
    obtain ⟨k, hk, rfl⟩ := rz_le_nat (by omega) hin.1 hin.2
    refine ev_ps 3 rfl (ev_w (w2 := rz_w (rz_up v 20 0) a g) rfl ?_)
    refine ev_ps 2 rfl (ev_if (cd := .eq) rfl (fun h => ?_) (fun h => absurd rfl (rc_eq_f h)))
    refine ev_ps 1 rfl (ev_call (av := [_]) rfl rfl rfl rfl ⟨Nat.le_of_ble_eq_true rfl, rfl⟩ ⟨Nat.le_of_ble_eq_true rfl, Nat.le_of_ble_eq_true rfl⟩ (m_findLivesX (v := rz_up v 20 0) hn hv hR.2.2.1 hR.2.2.2.1) ?_)
    rintro _ _ ⟨rfl, f, rfl, hf⟩
    refine ev_ps 2 rfl (ev_call (av := [_, _]) rfl rfl rfl rfl ⟨Nat.le_of_ble_eq_true rfl, rfl⟩ ⟨Nat.le_of_ble_eq_true rfl, Nat.le_of_ble_eq_true rfl⟩ (m_livesAt (v := rz_up v 20 0) hv hn (by omega)) ?_)
    rintro _ _ ⟨rfl, rfl⟩
    rw [show rz_at n (rz_ua a 26 f 26) k = rz_S R n k from rz_at_cg hf]
    exact ev_ret rfl rfl ⟨_, _, rfl, ⟨by rw [if_pos rfl, rz_clamp (by omega)], rfl, rz_ks.rf⟩, (rz_mf.rf.up (by omega) _).ua (by omega) _, hR.ua (by omega) f⟩
theorem m_blockX (hR : rz_RR v a R n r b l) (x : Int32) : rz_C xs xl 90 [.ref 25, .int x] (rz_w v a g) (rz_PM v a g (fun q v' a' => q = .inl (some (.int (if rz_kb x n = 0 then Int32.ofNat (rz_bk R n x.toNatClampNeg) else 0))) ∧ v' 20 = rz_kb x n ∧ rz_ks v a v' a') R n r b l) := by
  have hn := hR.1
  have hv := hR.2.1
  refine ev_ps 7 rfl (ev_call (av := [_, _, _]) rfl rfl rfl rfl ⟨Nat.le_of_ble_eq_true rfl, rfl⟩ ⟨Nat.le_of_ble_eq_true rfl, Nat.le_of_ble_eq_true rfl⟩ (m_in _ _ _) ?_)
  rintro _ _ ⟨⟨u2, h2, rfl⟩, rfl⟩
  have h2' : (u2 = 1 ∧ ¬ x < 0 ∧ ¬ v 21 - 1 < x) ∨ (u2 = 0 ∧ ¬ (¬ x < 0 ∧ ¬ v 21 - 1 < x)) := h2
  rw [hv, rz_sub1i hn] at h2'
  refine ev_if (cd := .eq) rfl (fun e2 => ?_) (fun e2 => ?_)
  · have hin : ¬ (¬ x < 0 ∧ x < Int32.ofNat n) := h2'.elim (fun z => absurd ((rc_eq_t e2).symm.trans z.1) (by decide)) (fun z => z.2)
    have e : rz_kb x n = 1 := by rw [rz_kb, rz_dc_f hin]; rfl
    rw [e]
    refine ev_ps 2 rfl (ev_w (w2 := rz_w (rz_up v 20 1) a g) rfl ?_)
    refine ev_ps 2 rfl (ev_if (cd := .eq) rfl (fun h => absurd (rc_eq_t h) (show ¬ (1 : Int32) = 0 by decide)) (fun h => ?_))
    exact ev_ps 1 rfl (ev_ret rfl rfl ⟨_, _, rfl, ⟨rfl, rfl, rz_ks.rf⟩, rz_mf.rf.up (by omega) _, hR⟩)
  · have hin := (h2'.resolve_right (fun q => rc_eq_f e2 q.1)).2
    have e : rz_kb x n = 0 := by rw [rz_kb, rz_dc_t hin, if_pos rfl]
    rw [e]
    obtain ⟨k, hk, rfl⟩ := rz_idx (by omega) hin.1 hin.2
    rw [rz_clamp (k := k) (by omega)]
    refine ev_ps 3 rfl (ev_w (w2 := rz_w (rz_up v 20 0) a g) rfl ?_)
    refine ev_ps 2 rfl (ev_if (cd := .eq) rfl (fun h => ?_) (fun h => absurd rfl (rc_eq_f h)))
    refine ev_ps 2 rfl ?_
    refine ev_loop (α := Nat) (fun r => r) (fun j => j ≤ k ∧ rz_bk R n k = rz_bk R n j) (fun r => [some (.ref 25), some (.int (Int32.ofNat k)), some (.int (Int32.ofNat r))]) (fun _ => []) (fun _ => rz_w (rz_up v 20 0) a g) ?_ k ⟨Nat.le_refl _, rfl⟩
    rintro j ⟨hj, hbk⟩ ih
    refine ev_ps 2 rfl (ev_call (av := [_, _]) rfl rfl rfl rfl ⟨Nat.le_of_ble_eq_true rfl, rfl⟩ ⟨Nat.le_of_ble_eq_true rfl, Nat.le_of_ble_eq_true rfl⟩ (m_isBeginX (v := rz_up v 20 0) hv hn (by omega) hR.2.2.1 hR.2.2.2.1) ?_)
    rintro _ _ ⟨⟨u3, hu3, hui3, rfl⟩, rfl⟩
    refine ev_if (cd := .ne) rfl (fun h => ?_) (fun h => ?_)
    · have hb := hui3.mp (hu3.resolve_left (rc_ne_t h))
      have e9 : rz_bk R n j = j := by
        cases j with
        | zero => rfl
        | succ j => rw [rz_bk, rz_dc_t hb, if_pos rfl]
      exact ev_ps 1 rfl (ev_ret rfl rfl ⟨_, _, rfl, ⟨by rw [if_pos rfl, hbk, e9], rfl, rz_ks.rf⟩, rz_mf.rf.up (by omega) _, hR⟩)
    · have hb : ¬ rz_bn R n j := fun z => absurd ((rc_ne_f h).symm.trans (hui3.mpr z)) (by decide)
      obtain ⟨i, rfl⟩ : ∃ i, j = i + 1 := ⟨j - 1, by
        have : j ≠ 0 := fun z => hb (Or.inl z)
        omega⟩
      have h9 := ih i ⟨by omega, by rw [hbk, rz_bk, rz_dc_f hb, if_neg (by decide)]⟩ (by omega)
      rw [show Int32.ofNat i = Int32.ofNat (i + 1) + Int32.ofInt (-1) from by
        rw [← rz_succ i]
        exact (Int32.add_sub_cancel (Int32.ofNat i) 1).symm.trans (Int32.sub_eq_add_neg _ _)] at h9
      exact ev_ps 2 rfl h9
theorem m_improveY (hR : rz_RR v a R n r b l) : rz_C xs xl 97 [.ref 25] (rz_w v a g) (rz_PM v a g (fun q v' a' => q = .inl (some (.int (Int32.ofNat n - Int32.ofNat (rz_IP 24 R n 0 r b l).2.1))) ∧ rz_ks v a v' a') (rz_IP 24 R n 0 r b l).1 (rz_IP 24 R n 0 r b l).2.1 (rz_IP 24 R n 0 r b l).2.2.1 (rz_IP 24 R n 0 r b l).2.2.2.1 (rz_IP 24 R n 0 r b l).2.2.2.2) :=
  ev_mono (fun q w' ⟨v', a', h1, h2, h3, h4, h5⟩ => ⟨v', a', h2, ⟨h1, h4⟩, h3, h5⟩) (m_improveX hR)
theorem m_resultX (hR : rz_RR v a R n r b l) (x : Int32) : rz_C xs xl 84 [.ref 25, .int x] (rz_w v a g) (rz_PM v a g (fun q _ _ => rz_pi q) R n r b l) := by
  refine ev_ps 3 rfl (ev_w (w2 := rz_w (rz_up v 20 0) a g) rfl ?_)
  refine ev_ps 2 rfl (ev_ic (cd := .ne) rfl (fun h => ?_) (fun h => ?_))
  · refine ev_ps 2 rfl (ev_ic (cd := .ne) rfl (fun h => ?_) (fun h => ?_))
    · refine ev_ps 3 rfl (ev_call (av := [_, _, _]) rfl rfl rfl rfl ⟨Nat.le_of_ble_eq_true rfl, rfl⟩ ⟨Nat.le_of_ble_eq_true rfl, Nat.le_of_ble_eq_true rfl⟩ (m_in _ _ _) ?_)
      rintro _ _ ⟨⟨u1, h1, rfl⟩, rfl⟩
      refine ev_if (cd := .eq) rfl (fun e => ?_) (fun e1 => ?_)
      · exact ev_ps 1 rfl (ev_ret rfl rfl ⟨_, _, rfl, ⟨_, rfl⟩, rz_mf.rf.up (by omega) _, hR⟩)
      · obtain ⟨-, x0, x1⟩ := h1.resolve_right (fun q => rc_eq_f e1 q.1)
        obtain ⟨k, hk, rfl⟩ := rz_le_nat (b := 11) (by decide) x0 x1
        refine ev_ps 3 rfl (ev_ald rfl rfl (rz_in (by omega) (by decide)) ?_)
        exact ev_ps 1 rfl (ev_ret rfl rfl ⟨_, _, rfl, ⟨_, rfl⟩, rz_mf.rf.up (by omega) _, hR⟩)
    · exact ev_ps 3 rfl (ev_ret rfl rfl ⟨_, _, rfl, ⟨_, rfl⟩, rz_mf.rf.up (by omega) _, hR⟩)
  · exact ev_ps 3 rfl (ev_ret rfl rfl ⟨_, _, rfl, ⟨_, rfl⟩, rz_mf.rf.up (by omega) _, hR⟩)
theorem m_sameX {k : Nat} (hR : rz_RR v a R k r b l) (x n y m z : Int32) : rz_C xs xl 92 [.ref 25, .int x, .int n, .int y, .int m, .int z] (rz_w v a g) (rz_PM v a g (fun q _ _ => rz_pi q) R k r b l) := by
  have no : ∀ c : Int32, c ≠ 0 → rz_E xs xl 92 82 [some (.ref 25), some (.int x), some (.int n), some (.int y), some (.int m), some (.int z)] [.int c, .ref 25] (rz_w v a g) 0 0 (rz_PM v a g (fun q _ _ => rz_pi q) R k r b l) := by
    intro c hc
    refine ev_ps 1 rfl (ev_w (w2 := rz_w (rz_up v 20 c) a g) rfl ?_)
    refine ev_ps 2 rfl (ev_if (cd := .ne) rfl (fun h => ?_) (fun h => absurd (rc_ne_f h) hc))
    exact ev_ps 1 rfl (ev_ret rfl rfl ⟨_, _, rfl, ⟨_, rfl⟩, rz_mf.rf.up (by omega) _, hR⟩)
  have no1 : rz_E xs xl 92 31 [some (.ref 25), some (.int x), some (.int n), some (.int y), some (.int m), some (.int z)] [.ref 25] (rz_w v a g) 0 0 (rz_PM v a g (fun q _ _ => rz_pi q) R k r b l) := ev_ps 2 rfl (no 1 (by decide))
  have no2 : rz_E xs xl 92 54 [some (.ref 25), some (.int x), some (.int n), some (.int y), some (.int m), some (.int z)] [.ref 25] (rz_w v a g) 0 0 (rz_PM v a g (fun q _ _ => rz_pi q) R k r b l) := ev_ps 2 rfl (no 2 (by decide))
  have no3 : rz_E xs xl 92 77 [some (.ref 25), some (.int x), some (.int n), some (.int y), some (.int m), some (.int z)] [.ref 25] (rz_w v a g) 0 0 (rz_PM v a g (fun q _ _ => rz_pi q) R k r b l) := ev_ps 2 rfl (no 3 (by decide))
  have hk := hR.1
  have hv := hR.2.1
  have hrows : ∀ j, j < k → rz_li a j := fun j hj => rz_pr_li hR.2.2.1 hR.2.2.2.1 hj
  refine ev_ps 4 rfl (ev_call (av := [_, _, _]) rfl rfl rfl rfl ⟨Nat.le_of_ble_eq_true rfl, rfl⟩ ⟨Nat.le_of_ble_eq_true rfl, Nat.le_of_ble_eq_true rfl⟩ (m_in _ _ _) ?_)
  rintro _ _ ⟨⟨u1, h1, rfl⟩, rfl⟩
  refine ev_if (cd := .eq) rfl (fun e => no1) (fun e1 => ?_)
  obtain ⟨-, n0, n1⟩ := h1.resolve_right (fun q => rc_eq_f e1 q.1)
  refine ev_ps 3 rfl (ev_call (av := [_, _, _]) rfl rfl rfl rfl ⟨Nat.le_of_ble_eq_true rfl, rfl⟩ ⟨Nat.le_of_ble_eq_true rfl, Nat.le_of_ble_eq_true rfl⟩ (m_in _ _ _) ?_)
  rintro _ _ ⟨⟨u2, h2, rfl⟩, rfl⟩
  refine ev_if (cd := .eq) rfl (fun e => no1) (fun e2 => ?_)
  obtain ⟨-, m0, m1⟩ := h2.resolve_right (fun q => rc_eq_f e2 q.1)
  refine ev_ps 3 rfl (ev_call (av := [_, _, _]) rfl rfl rfl rfl ⟨Nat.le_of_ble_eq_true rfl, rfl⟩ ⟨Nat.le_of_ble_eq_true rfl, Nat.le_of_ble_eq_true rfl⟩ (m_in _ _ _) ?_)
  rintro _ _ ⟨⟨u3, h3, rfl⟩, rfl⟩
  refine ev_if (cd := .ne) rfl (fun e3 => ?_) (fun e => no1)
  obtain ⟨n', hn', rfl⟩ := rz_le_nat (b := 3) (by decide) n0 n1
  obtain ⟨m', hm', rfl⟩ := rz_le_nat (b := 3) (by decide) m0 m1
  refine ev_ps 3 rfl (ev_call (av := [_, _, _]) rfl rfl rfl rfl ⟨Nat.le_of_ble_eq_true rfl, rfl⟩ ⟨Nat.le_of_ble_eq_true rfl, Nat.le_of_ble_eq_true rfl⟩ (m_isThere _ hn' hk hv) ?_)
  rintro _ _ ⟨⟨u4, hu4, hP4, rfl⟩, rfl⟩
  refine ev_if (cd := .eq) rfl (fun e => no2) (fun e4 => ?_)
  obtain ⟨p, rfl, hpn⟩ := hP4 (hu4.resolve_left (rc_eq_f e4))
  refine ev_ps 3 rfl (ev_call (av := [_, _, _]) rfl rfl rfl rfl ⟨Nat.le_of_ble_eq_true rfl, rfl⟩ ⟨Nat.le_of_ble_eq_true rfl, Nat.le_of_ble_eq_true rfl⟩ (m_isThere _ hm' hk hv) ?_)
  rintro _ _ ⟨⟨u5, hu5, hP5, rfl⟩, rfl⟩
  refine ev_if (cd := .ne) rfl (fun e5 => ?_) (fun e => no2)
  obtain ⟨q, rfl, hqm⟩ := hP5 (hu5.resolve_left (rc_ne_t e5))
  refine ev_ps 3 rfl (ev_call (av := [_, _, _]) rfl rfl rfl rfl ⟨Nat.le_of_ble_eq_true rfl, rfl⟩ ⟨Nat.le_of_ble_eq_true rfl, Nat.le_of_ble_eq_true rfl⟩ (m_isPlain (by omega)) ?_)
  rintro _ _ ⟨⟨u6, hu6, -, rfl⟩, rfl⟩
  refine ev_if (cd := .eq) rfl (fun e => no3) (fun e6 => ?_)
  refine ev_ps 3 rfl (ev_call (av := [_, _, _]) rfl rfl rfl rfl ⟨Nat.le_of_ble_eq_true rfl, rfl⟩ ⟨Nat.le_of_ble_eq_true rfl, Nat.le_of_ble_eq_true rfl⟩ (m_isPlain (by omega)) ?_)
  rintro _ _ ⟨⟨u7, hu7, -, rfl⟩, rfl⟩
  refine ev_if (cd := .ne) rfl (fun e7 => ?_) (fun e => no3)
  refine ev_ps 2 rfl (ev_w (w2 := rz_w (rz_up v 20 0) a g) rfl ?_)
  refine ev_ps 2 rfl (ev_if (cd := .ne) rfl (fun h => absurd rfl (rc_ne_t h)) (fun h => ?_))
  refine ev_ps 6 rfl (ev_call (av := [_, _, _, _, _, _]) rfl rfl rfl rfl ⟨Nat.le_of_ble_eq_true rfl, rfl⟩ ⟨Nat.le_of_ble_eq_true rfl, Nat.le_of_ble_eq_true rfl⟩ (m_agree _ (by omega) (by omega) (fun j h1 h2 => hrows j (by omega)) (fun j h1 h2 => hrows j (by omega))) ?_)
  rintro _ _ ⟨⟨u8, hu8, rfl⟩, f1, f2, rfl⟩
  refine ev_if (cd := .eq) rfl (fun h => ?_) (fun h => ?_)
  · exact ev_ps 1 rfl (ev_ret rfl rfl ⟨_, _, rfl, ⟨_, rfl⟩, ((rz_mf.rf.up (by omega) _).ua (by omega) _).ua (by omega) _, (hR.ua (by omega) f1).ua (by omega) f2⟩)
  · exact ev_ps 2 rfl (ev_ret rfl rfl ⟨_, _, rfl, ⟨_, rfl⟩, ((rz_mf.rf.up (by omega) _).ua (by omega) _).ua (by omega) _, (hR.ua (by omega) f1).ua (by omega) f2⟩)
theorem m_runX {l0 : Nat} (hR : rz_RR v a R n r b l0) (x : Int32) : rz_C xs xl 80 [.ref 25, .int x] (rz_w v a g) (rz_PM v a g (fun q _ _ => rz_pi q) R n r b l0) := by
  have hmi := hR.mi
  have hn := hR.1
  have hv := hR.2.1
  have hrows : ∀ j, j < n → rz_li a j := fun j hj => rz_pr_li hR.2.2.1 hR.2.2.2.1 hj
  refine ev_ps 4 rfl (ev_call (av := [_, _, _]) rfl rfl rfl rfl ⟨Nat.le_of_ble_eq_true rfl, rfl⟩ ⟨Nat.le_of_ble_eq_true rfl, Nat.le_of_ble_eq_true rfl⟩ (m_in _ _ _) ?_)
  rintro _ _ ⟨⟨u2, h2, rfl⟩, rfl⟩
  refine ev_if (cd := .eq) rfl (fun e2 => ?_) (fun e2 => ?_)
  · refine ev_ps 2 rfl (ev_w (w2 := rz_w (rz_up v 20 1) a g) rfl ?_)
    refine ev_ps 2 rfl (ev_if (cd := .eq) rfl (fun h => absurd (rc_eq_t h) (show ¬ (1 : Int32) = 0 by decide)) (fun h => ?_))
    exact ev_ps 1 rfl (ev_ret rfl rfl ⟨_, _, rfl, ⟨_, rfl⟩, rz_mf.rf.up (by omega) _, hR⟩)
  · obtain ⟨-, y0, y1⟩ := h2.resolve_right (fun q => rc_eq_f e2 q.1)
    obtain ⟨l, hl, rfl⟩ := rz_le_nat (b := 500) (by decide) y0 y1
    refine ev_ps 3 rfl (ev_w (w2 := rz_w (rz_up v 20 0) a g) rfl ?_)
    refine ev_ps 2 rfl (ev_if (cd := .eq) rfl (fun h => ?_) (fun h => absurd rfl (rc_eq_f h)))
    have fin : ∀ (e : Int32) (j : Int32) (f f2 : Nat → Int32), rz_sm f2 12 → rz_mf v a (rz_up (rz_up (rz_up v 20 0) 22 e) 23 j) (rz_ua (rz_ua a 27 f) 25 f2) ∧ rz_RR (rz_up (rz_up (rz_up v 20 0) 22 e) 23 j) (rz_ua (rz_ua a 27 f) 25 f2) R n r b l0 := fun e j f f2 hf2 =>
      ⟨((((rz_mf.rf.up (by omega) _).up (by omega) _).up (by omega) _).ua (by omega) _).ua (by omega) _, hR.1, hR.2.1, hR.2.2.1, hR.2.2.2.1, hR.2.2.2.2.1, hR.2.2.2.2.2.1, hf2, hR.2.2.2.2.2.2.2⟩
    have loop : ∀ (e : Int32) (t3 : Option Value) (j : Nat) (f f2 : Nat → Int32), rz_sm f2 12 → (e = 0 → j < n) → rz_E xs xl 80 82 [some (.ref 25), some (.int (Int32.ofNat l)), some (.int (Int32.ofNat 0)), t3] [] (rz_w (rz_up (rz_up (rz_up v 20 0) 22 e) 23 (Int32.ofNat j)) (rz_ua (rz_ua a 27 f) 25 f2) g) 0 0 (rz_PM v a g (fun q _ _ => rz_pi q) R n r b l0) := by
      intro e t3 j f f2 hf2 he
      refine ev_loop (α := Nat × Int32 × Option Value × Nat × (Nat → Int32) × (Nat → Int32)) (fun r => l - r.1) (fun r => r.1 ≤ l ∧ rz_sm r.2.2.2.2.2 12 ∧ (r.2.1 = 0 → r.2.2.2.1 < n)) (fun r => [some (.ref 25), some (.int (Int32.ofNat l)), some (.int (Int32.ofNat r.1)), r.2.2.1]) (fun _ => []) (fun r => rz_w (rz_up (rz_up (rz_up v 20 0) 22 r.2.1) 23 (Int32.ofNat r.2.2.2.1)) (rz_ua (rz_ua a 27 r.2.2.2.2.1) 25 r.2.2.2.2.2) g) ?_ (0, e, t3, j, f, f2) ⟨Nat.zero_le _, hf2, he⟩
      rintro ⟨k, e, t3, j, f, f2⟩ ⟨hk, hf2, he⟩ ih
      dsimp only at hk hf2 he ih ⊢
      obtain ⟨m1, m2⟩ := fin e (Int32.ofNat j) f f2 hf2
      refine ev_ps 2 rfl (ev_if (cd := .ne) rfl (fun h => ?_) (fun h => ?_))
      · exact ev_ps 1 rfl (ev_ret rfl rfl ⟨_, _, rfl, ⟨_, rfl⟩, m1, m2⟩)
      · refine ev_ps 2 rfl (ev_ic (cd := .ge) rfl (fun h1 => ?_) (fun h1 => ?_))
        · exact ev_ps 1 rfl (ev_ret rfl rfl ⟨_, _, rfl, ⟨_, rfl⟩, m1, m2⟩)
        · have hk' : k < l := rn_ge_f (by omega) (by omega) h1
          have hj : j < n := he (rc_ne_f h)
          refine ev_ps 5 rfl (ev_call (av := [_, _]) rfl rfl rfl rfl ⟨Nat.le_of_ble_eq_true rfl, rfl⟩ ⟨Nat.le_of_ble_eq_true rfl, Nat.le_of_ble_eq_true rfl⟩ (m_execute m2.mi hv hn hj (hrows j hj)) ?_)
          rintro _ _ ⟨rfl, j2, f3, f4, hj2, hf4, rfl⟩
          refine ev_w (w2 := rz_w (rz_up (rz_up (rz_up v 20 0) 22 e) 23 (Int32.ofNat j2)) (rz_ua (rz_ua a 27 f3) 25 f4) g) rfl ?_
          have next : ∀ e2 : Int32, (e2 = 0 → j2 < n) → rz_E xs xl 80 135 [some (.ref 25), some (.int (Int32.ofNat l)), some (.int (Int32.ofNat k + Int32.ofInt 1)), some (.int (Int32.ofNat j))] [.int e2, .ref 25] (rz_w (rz_up (rz_up (rz_up v 20 0) 22 e) 23 (Int32.ofNat j2)) (rz_ua (rz_ua a 27 f3) 25 f4) g) 0 0 (rz_PM v a g (fun q _ _ => rz_pi q) R n r b l0) := by
            intro e3 he3
            have h9 := ih (k + 1, e3, some (.int (Int32.ofNat j)), j2, f3, f4) ⟨by show k + 1 ≤ l; omega, hf4, he3⟩ (by show l - (k + 1) < l - k; omega)
            dsimp only at h9
            rw [← rz_succ k] at h9
            exact ev_ps 1 rfl (ev_w (w2 := rz_w (rz_up (rz_up (rz_up v 20 0) 22 e3) 23 (Int32.ofNat j2)) (rz_ua (rz_ua a 27 f3) 25 f4) g) rfl (ev_ps 1 rfl h9))
          refine ev_ps 5 rfl (ev_ald rfl rfl (rz_in (by omega) (by decide)) ?_)
          refine ev_ps 1 rfl (ev_ic (cd := .eq) rfl (fun h5 => ?_) (fun h5 => ?_))
          · exact ev_ps 2 rfl (next 1 (fun q => absurd q (by decide)))
          · refine ev_ps 4 rfl (ev_ic (cd := .lt) rfl (fun h6 => ?_) (fun h6 => ?_))
            · have h6' : rz_cmp .lt (Int32.ofNat j2) (v 21) = true := h6
              rw [hv] at h6'
              exact ev_ps 1 rfl (next 0 (fun _ => rn_lt_t (by omega) (by omega) h6'))
            · exact ev_ps 2 rfl (next 1 (fun q => absurd q (by decide)))
    refine ev_ps 2 rfl (ev_w (w2 := rz_w (rz_up v 20 0) (rz_ua a 25 (a 25)) g) rfl ?_)
    refine ev_loop (α := Nat × (Nat → Int32)) (fun r => 12 - r.1) (fun r => r.1 ≤ 12 ∧ rz_sm r.2 12) (fun r => [some (.ref 25), some (.int (Int32.ofNat l)), some (.int (Int32.ofNat r.1)), none]) (fun _ => []) (fun r => rz_w (rz_up v 20 0) (rz_ua a 25 r.2) g) ?_ (0, a 25) ⟨Nat.zero_le _, hmi.2.2.2⟩
    rintro ⟨k, f2⟩ ⟨hk, hf2⟩ ih
    dsimp only at hk hf2 ih ⊢
    refine ev_ps 2 rfl (ev_ic (cd := .ge) rfl (fun h => ?_) (fun h => ?_))
    · refine ev_ps 3 rfl (ev_w (w2 := rz_w (rz_up (rz_up (rz_up v 20 0) 22 (v 22)) 23 0) (rz_ua (rz_ua a 27 (a 27)) 25 f2) g) rfl ?_)
      have go : ∀ e2 : Int32, (e2 = 0 → 0 < n) → rz_E xs xl 80 77 [some (.ref 25), some (.int (Int32.ofNat l)), some (.int (Int32.ofNat k)), none] [.int e2, .ref 25] (rz_w (rz_up (rz_up (rz_up v 20 0) 22 (v 22)) 23 0) (rz_ua (rz_ua a 27 (a 27)) 25 f2) g) 0 0 (rz_PM v a g (fun q _ _ => rz_pi q) R n r b l0) := by
        intro e3 he3
        exact ev_ps 1 rfl (ev_w (w2 := rz_w (rz_up (rz_up (rz_up v 20 0) 22 e3) 23 (Int32.ofNat 0)) (rz_ua (rz_ua a 27 (a 27)) 25 f2) g) rfl (ev_ps 2 rfl (loop e3 _ 0 _ f2 hf2 he3)))
      refine ev_ps 5 rfl (ev_ic (cd := .lt) rfl (fun h6 => ?_) (fun h6 => ?_))
      · have h6' : rz_cmp .lt (Int32.ofNat 0) (v 21) = true := h6
        rw [hv] at h6'
        exact ev_ps 1 rfl (go 0 (fun _ => rn_lt_t (by omega) (by omega) h6'))
      · exact ev_ps 2 rfl (go 1 (fun q => absurd q (by decide)))
    · have hk' : k < 12 := rn_ge_f (k := 12) (by omega) (by omega) h
      obtain ⟨y, hy, ey⟩ := hmi.2.2.1 k hk'
      have ei := rz_clamp (k := k) (by omega)
      refine ev_ps 6 rfl (ev_ald rfl rfl (rz_in hk' (by decide)) ?_)
      refine ev_ast rfl rfl (rz_in hk' (by decide)) ?_
      have h9 := ih (k + 1, upd f2 k (Int32.ofNat y)) ⟨by show k + 1 ≤ 12; omega, rz_sm_up hf2 hy⟩ (by show 12 - (k + 1) < 12 - k; omega)
      dsimp only at h9
      rw [← rz_succ k] at h9
      refine ev_w (w2 := rz_w (rz_up v 20 0) (rz_ua a 25 (upd f2 k (Int32.ofNat y))) g) ?_ (ev_ps 2 rfl h9)
      rw [ei, ← ey]; rfl
theorem m_startX (hR : rz_RR v a R n r b l) (x y : Int32) : rz_C xs xl 79 [.ref 25, .int x, .int y] (rz_w v a g) (rz_PM v a g (fun q v' a' => q = .inl none ∧ ((v' 20 = 0 ∧ rz_sok x y) ∨ (v' 20 = 1 ∧ ¬ rz_sok x y))) R n r b l) := by
  have no : ¬ rz_sok x y → rz_E xs xl 79 25 [some (.ref 25), some (.int x), some (.int y)] [.ref 25] (rz_w v a g) 0 0 (rz_PM v a g (fun q v' a' => q = .inl none ∧ ((v' 20 = 0 ∧ rz_sok x y) ∨ (v' 20 = 1 ∧ ¬ rz_sok x y))) R n r b l) := by
    intro hno
    refine ev_ps 2 rfl (ev_w (w2 := rz_w (rz_up v 20 1) a g) rfl ?_)
    refine ev_ps 2 rfl (ev_if (cd := .ne) rfl (fun h => ?_) (fun h => absurd (rc_ne_f h) (show ¬ (1 : Int32) = 0 by decide)))
    exact ev_ret rfl rfl ⟨_, _, rfl, ⟨rfl, Or.inr ⟨rfl, hno⟩⟩, rz_mf.rf.up (by omega) _, hR⟩
  refine ev_ps 4 rfl (ev_call (av := [_, _, _]) rfl rfl rfl rfl ⟨Nat.le_of_ble_eq_true rfl, rfl⟩ ⟨Nat.le_of_ble_eq_true rfl, Nat.le_of_ble_eq_true rfl⟩ (m_in _ _ _) ?_)
  rintro _ _ ⟨⟨u1, h1, rfl⟩, rfl⟩
  refine ev_if (cd := .eq) rfl (fun e => no ?_) (fun e1 => ?_)
  · intro hok
    rcases h1 with ⟨q, -⟩ | ⟨-, q⟩
    · rw [rc_eq_t e] at q; exact absurd q (by decide)
    · refine q ⟨hok.1, ?_⟩
      intro q2
      have : x < 12 := hok.2.1
      obtain ⟨k, hk, rfl⟩ := rz_idx (n := 12) (by decide) (fun h => hok.1 (Int32.lt_trans h (by decide))) this
      have := (rz_lt_iff (n := 11) (by omega) (by omega)).mp q2
      omega
  obtain ⟨-, x0, x1⟩ := h1.resolve_right (fun q => rc_eq_f e1 q.1)
  refine ev_ps 3 rfl (ev_call (av := [_, _, _]) rfl rfl rfl rfl ⟨Nat.le_of_ble_eq_true rfl, rfl⟩ ⟨Nat.le_of_ble_eq_true rfl, Nat.le_of_ble_eq_true rfl⟩ (m_in _ _ _) ?_)
  rintro _ _ ⟨⟨u2, h2, rfl⟩, rfl⟩
  refine ev_if (cd := .eq) rfl (fun e => no ?_) (fun e2 => ?_)
  · intro hok
    rcases h2 with ⟨q, -⟩ | ⟨-, q⟩
    · rw [rc_eq_t e] at q; exact absurd q (by decide)
    · exact q ⟨hok.2.2.1, hok.2.2.2⟩
  obtain ⟨-, y0, y1⟩ := h2.resolve_right (fun q => rc_eq_f e2 q.1)
  obtain ⟨k, hk, rfl⟩ := rz_le_nat (b := 11) (by decide) (fun h => x0 (Int32.lt_trans h (by decide))) x1
  obtain ⟨j, hj, rfl⟩ := rz_le_nat (b := 15) (by decide) y0 y1
  have hok : rz_sok (Int32.ofNat k) (Int32.ofNat j) := ⟨x0, (rz_lt_iff (k := 12) (by omega) (by omega)).mpr (by omega), y0, y1⟩
  refine ev_ps 3 rfl (ev_w (w2 := rz_w (rz_up v 20 0) a g) rfl ?_)
  refine ev_ps 2 rfl (ev_if (cd := .ne) rfl (fun h => absurd rfl (rc_ne_t h)) (fun h => ?_))
  refine ev_ps 4 rfl (ev_ast rfl rfl (rz_in (by omega) (by decide)) ?_)
  refine ev_w (w2 := rz_w (rz_up v 20 0) (rz_ua a 24 (upd (a 24) k (Int32.ofNat j))) g) (by rw [rz_clamp (by omega)]; rfl) ?_
  refine ev_ret rfl rfl ⟨_, _, rfl, ⟨rfl, Or.inl ⟨rfl, hok⟩⟩, (rz_mf.rf.up (by omega) _).ua (by omega) _, hR.1, hR.2.1, hR.2.2.1, hR.2.2.2.1, hR.2.2.2.2.1, ?_, hR.2.2.2.2.2.2⟩
  intro i hi
  show ∃ j', j' ≤ 15 ∧ upd (a 24) k (Int32.ofNat j) i = Int32.ofNat j'
  by_cases hik : i = k
  · exact ⟨j, hj, by simp [upd, hik]⟩
  · obtain ⟨j', hj', e⟩ := hR.2.2.2.2.2.1 i hi
    exact ⟨j', hj', by simp [upd, hik]; exact e⟩
end RZZ2
