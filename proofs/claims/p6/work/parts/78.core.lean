/-! what is asked and answered, exactly: the class's methods and the reference's -/
section RZZ1
variable {xs : Nat → Int32} {xl : Nat} {v : Nat → Int32} {a : Nat → Nat → Int32} {g : Nat → Int64} {R : Nat → rz_Q} {n r b l : Nat} {w : rz_W}
def rz_mr (o : Int32) : Int32 := if o < 14 then 3 else 0
def rz_gt (o : Int32) : Int32 := if 5 < o then (if 9 < o then (if 11 < o then (if o = 15 then 0 else 24) else 7) else 15) else 3
def rz_okq (o d s t : Int32) : Prop := (¬ o < 0 ∧ ¬ 15 < o) ∧ (¬ d < 0 ∧ ¬ rz_mr o < d) ∧ (¬ s < 0 ∧ ¬ rz_mr o < s) ∧ (¬ t < 0 ∧ ¬ rz_gt o < t)
def rz_qq (o d s t : Int32) : rz_Q := (o.toNatClampNeg, d.toNatClampNeg, s.toNatClampNeg, t.toNatClampNeg)
def rz_ur (R : Nat → rz_Q) (k : Nat) (q : rz_Q) : Nat → rz_Q := fun j => if j = k then q else R j
theorem rz_gt_nat {i : Nat} (hi : i ≤ 15) : ∃ c, c ≤ 24 ∧ (i ≤ 5 → c ≤ 3) ∧ rz_gt (Int32.ofNat i) = Int32.ofNat c := by
  unfold rz_gt
  by_cases h5 : (5 : Int32) < Int32.ofNat i
  · have h5' : 5 < i := (rz_lt_iff (n := 5) (by omega) (by omega)).mp h5
    rw [if_pos h5]
    by_cases h9 : (9 : Int32) < Int32.ofNat i
    · rw [if_pos h9]
      by_cases h11 : (11 : Int32) < Int32.ofNat i
      · rw [if_pos h11]
        by_cases h15 : Int32.ofNat i = 15
        · rw [if_pos h15]; exact ⟨0, by omega, fun h => absurd h (by omega), rfl⟩
        · rw [if_neg h15]; exact ⟨24, by omega, fun h => absurd h (by omega), rfl⟩
      · rw [if_neg h11]; exact ⟨7, by omega, fun h => absurd h (by omega), rfl⟩
    · rw [if_neg h9]; exact ⟨15, by omega, fun h => absurd h (by omega), rfl⟩
  · rw [if_neg h5]; exact ⟨3, by omega, fun _ => by omega, rfl⟩
theorem rz_mr_nat (o : Int32) : ∃ c, c ≤ 3 ∧ rz_mr o = Int32.ofNat c := by
  unfold rz_mr
  by_cases h : o < 14
  · rw [if_pos h]; exact ⟨3, by omega, rfl⟩
  · rw [if_neg h]; exact ⟨0, by omega, rfl⟩
theorem rz_okq_lg {o d s t : Int32} (h : rz_okq o d s t) : rz_lg (rz_qq o d s t) ∧ o = Int32.ofNat (rz_qq o d s t).1 ∧ d = Int32.ofNat (rz_qq o d s t).2.1 ∧ s = Int32.ofNat (rz_qq o d s t).2.2.1 ∧ t = Int32.ofNat (rz_qq o d s t).2.2.2 := by
  obtain ⟨⟨o0, o1⟩, ⟨d0, d1⟩, ⟨s0, s1⟩, ⟨t0, t1⟩⟩ := h
  obtain ⟨i, hi, rfl⟩ := rz_le_nat (b := 15) (by decide) o0 o1
  obtain ⟨m, hm, em⟩ := rz_mr_nat (Int32.ofNat i)
  obtain ⟨c, hc, hc5, ec⟩ := rz_gt_nat hi
  rw [em] at d1 s1
  rw [ec] at t1
  obtain ⟨j, hj, rfl⟩ := rz_le_nat (b := m) (by omega) d0 d1
  obtain ⟨k, hk, rfl⟩ := rz_le_nat (b := m) (by omega) s0 s1
  obtain ⟨e, he, rfl⟩ := rz_le_nat (b := c) (by omega) t0 t1
  unfold rz_qq
  rw [rz_clamp (by omega), rz_clamp (by omega), rz_clamp (by omega), rz_clamp (by omega)]
  exact ⟨⟨hi, by show j ≤ 3; omega, by show k ≤ 3; omega, by show e ≤ 24; omega, fun h => by
    have := hc5 h
    show e ≤ 3
    omega⟩, rfl, rfl, rfl, rfl⟩
theorem x_greatestT (x0 : Int32) : rz_C xs xl 52 [.int x0] w (fun q w' => q = .inl (some (.int (rz_gt x0))) ∧ w' = w) := by
  refine ev_ps 2 rfl (ev_ic (cd := .gt) rfl (fun h1 => ?_) (fun h1 => ?_))
  · refine ev_ps 2 rfl (ev_ic (cd := .gt) rfl (fun h2 => ?_) (fun h2 => ?_))
    · refine ev_ps 2 rfl (ev_ic (cd := .gt) rfl (fun h3 => ?_) (fun h3 => ?_))
      · refine ev_ps 2 rfl (ev_ic (cd := .ne) rfl (fun h4 => ?_) (fun h4 => ?_))
        · exact ev_ps 1 rfl (ev_ret rfl rfl ⟨by rw [rz_gt, if_pos (show (5 : Int32) < x0 from rc_gt_t h1), if_pos (show (9 : Int32) < x0 from rc_gt_t h2), if_pos (show (11 : Int32) < x0 from rc_gt_t h3), if_neg (show ¬ x0 = 15 from rc_ne_t h4)]; rfl, rfl⟩)
        · exact ev_ps 2 rfl (ev_ret rfl rfl ⟨by rw [rz_gt, if_pos (show (5 : Int32) < x0 from rc_gt_t h1), if_pos (show (9 : Int32) < x0 from rc_gt_t h2), if_pos (show (11 : Int32) < x0 from rc_gt_t h3), if_pos (show x0 = 15 from rc_ne_f h4)]; rfl, rfl⟩)
      · exact ev_ps 1 rfl (ev_ret rfl rfl ⟨by rw [rz_gt, if_pos (show (5 : Int32) < x0 from rc_gt_t h1), if_pos (show (9 : Int32) < x0 from rc_gt_t h2), if_neg (show ¬ (11 : Int32) < x0 from rc_gt_f h3)]; rfl, rfl⟩)
    · exact ev_ps 1 rfl (ev_ret rfl rfl ⟨by rw [rz_gt, if_pos (show (5 : Int32) < x0 from rc_gt_t h1), if_neg (show ¬ (9 : Int32) < x0 from rc_gt_f h2)]; rfl, rfl⟩)
  · exact ev_ps 1 rfl (ev_ret rfl rfl ⟨by rw [rz_gt, if_neg (show ¬ (5 : Int32) < x0 from rc_gt_f h1)]; rfl, rfl⟩)
theorem x_isLegal (x0 x1 x2 x3 : Int32) : rz_C xs xl 51 [.int x0, .int x1, .int x2, .int x3] w (rz_bx w (rz_okq x0 x1 x2 x3)) := by
  refine ev_ps 1 rfl (ev_if (cd := .lt) rfl (fun h1 => ?_) (fun h1 => ?_))
  · exact ev_ps 1 rfl (ev_ret rfl rfl (rz_bx0 (fun z => z.1.1 (rc_lt_t h1))))
  refine ev_ps 2 rfl (ev_ic (cd := .le) rfl (fun h2 => ?_) (fun h2 => ?_))
  rotate_left
  · exact ev_ps 1 rfl (ev_ret rfl rfl (rz_bx0 (fun z => rc_le_f h2 (Int32.not_lt.mp z.1.2))))
  have ho : ¬ x0 < 0 ∧ ¬ 15 < x0 := ⟨rc_lt_f h1, Int32.not_lt.mpr (rc_le_t h2)⟩
  refine ev_ps 2 rfl (ev_ic (cd := .lt) rfl (fun h3 => ?_) (fun h3 => ?_))
  · have em : rz_mr x0 = 3 := if_pos (rc_lt_t h3)
    refine ev_ps 3 rfl (ev_if (cd := .lt) rfl (fun h4 => ?_) (fun h4 => ?_))
    · exact ev_ps 1 rfl (ev_ret rfl rfl (rz_bx0 (fun z => z.2.1.1 (rc_lt_t h4))))
    refine ev_ps 2 rfl (ev_ic (cd := .gt) rfl (fun h5 => ?_) (fun h5 => ?_))
    · exact ev_ps 1 rfl (ev_ret rfl rfl (rz_bx0 (fun z => z.2.1.2 (by rw [em]; exact rc_gt_t h5))))
    refine ev_ps 1 rfl (ev_if (cd := .lt) rfl (fun h6 => ?_) (fun h6 => ?_))
    · exact ev_ps 1 rfl (ev_ret rfl rfl (rz_bx0 (fun z => z.2.2.1.1 (rc_lt_t h6))))
    refine ev_ps 2 rfl (ev_ic (cd := .gt) rfl (fun h7 => ?_) (fun h7 => ?_))
    · exact ev_ps 1 rfl (ev_ret rfl rfl (rz_bx0 (fun z => z.2.2.1.2 (by rw [em]; exact rc_gt_t h7))))
    refine ev_ps 1 rfl (ev_if (cd := .lt) rfl (fun h8 => ?_) (fun h8 => ?_))
    · exact ev_ps 1 rfl (ev_ret rfl rfl (rz_bx0 (fun z => z.2.2.2.1 (rc_lt_t h8))))
    refine ev_ps 2 rfl (ev_call (av := [_]) rfl rfl rfl rfl ⟨Nat.le_of_ble_eq_true rfl, rfl⟩ ⟨Nat.le_of_ble_eq_true rfl, Nat.le_of_ble_eq_true rfl⟩ (x_greatestT _) ?_)
    rintro _ _ ⟨rfl, rfl⟩
    refine ev_ic (cd := .gt) rfl (fun h9 => ?_) (fun h9 => ?_)
    · exact ev_ps 1 rfl (ev_ret rfl rfl (rz_bx0 (fun z => z.2.2.2.2 (rc_gt_t h9))))
    · exact ev_ps 2 rfl (ev_ret rfl rfl (rz_bx1 ⟨ho, ⟨rc_lt_f h4, by rw [em]; exact rc_gt_f h5⟩, ⟨rc_lt_f h6, by rw [em]; exact rc_gt_f h7⟩, rc_lt_f h8, rc_gt_f h9⟩))
  · have em : rz_mr x0 = 0 := if_neg (rc_lt_f h3)
    refine ev_ps 4 rfl (ev_if (cd := .lt) rfl (fun h4 => ?_) (fun h4 => ?_))
    · exact ev_ps 1 rfl (ev_ret rfl rfl (rz_bx0 (fun z => z.2.1.1 (rc_lt_t h4))))
    refine ev_ps 2 rfl (ev_ic (cd := .gt) rfl (fun h5 => ?_) (fun h5 => ?_))
    · exact ev_ps 1 rfl (ev_ret rfl rfl (rz_bx0 (fun z => z.2.1.2 (by rw [em]; exact rc_gt_t h5))))
    refine ev_ps 1 rfl (ev_if (cd := .lt) rfl (fun h6 => ?_) (fun h6 => ?_))
    · exact ev_ps 1 rfl (ev_ret rfl rfl (rz_bx0 (fun z => z.2.2.1.1 (rc_lt_t h6))))
    refine ev_ps 2 rfl (ev_ic (cd := .gt) rfl (fun h7 => ?_) (fun h7 => ?_))
    · exact ev_ps 1 rfl (ev_ret rfl rfl (rz_bx0 (fun z => z.2.2.1.2 (by rw [em]; exact rc_gt_t h7))))
    refine ev_ps 1 rfl (ev_if (cd := .lt) rfl (fun h8 => ?_) (fun h8 => ?_))
    · exact ev_ps 1 rfl (ev_ret rfl rfl (rz_bx0 (fun z => z.2.2.2.1 (rc_lt_t h8))))
    refine ev_ps 2 rfl (ev_call (av := [_]) rfl rfl rfl rfl ⟨Nat.le_of_ble_eq_true rfl, rfl⟩ ⟨Nat.le_of_ble_eq_true rfl, Nat.le_of_ble_eq_true rfl⟩ (x_greatestT _) ?_)
    rintro _ _ ⟨rfl, rfl⟩
    refine ev_ic (cd := .gt) rfl (fun h9 => ?_) (fun h9 => ?_)
    · exact ev_ps 1 rfl (ev_ret rfl rfl (rz_bx0 (fun z => z.2.2.2.2 (rc_gt_t h9))))
    · exact ev_ps 2 rfl (ev_ret rfl rfl (rz_bx1 ⟨ho, ⟨rc_lt_f h4, by rw [em]; exact rc_gt_f h5⟩, ⟨rc_lt_f h6, by rw [em]; exact rc_gt_f h7⟩, rc_lt_f h8, rc_gt_f h9⟩))
theorem m_isInstructionX (x y z u : Int32) : rz_C xs xl 72 [.int x, .int y, .int z, .int u] w (rz_bx w (rz_okq x y z u)) := by
  have no : ¬ rz_okq x y z u → rz_E xs xl 72 28 [some (.int x), some (.int y), some (.int z), some (.int u), none] [] w 0 0 (rz_bx w (rz_okq x y z u)) := fun h => ev_ps 1 rfl (ev_ret rfl rfl (rz_bx0 h))
  have no2 : ¬ rz_okq x y z u → ∀ t, rz_E xs xl 72 103 [some (.int x), some (.int y), some (.int z), some (.int u), t] [] w 0 0 (rz_bx w (rz_okq x y z u)) := fun h t => ev_ps 1 rfl (ev_ret rfl rfl (rz_bx0 h))
  have m3 : ∀ c : Int32, ¬ rz_mr x < c → ¬ 3 < c := fun c hc h3 => hc (by
    unfold rz_mr
    by_cases h : x < 14
    · rw [if_pos h]; exact h3
    · rw [if_neg h]; exact Int32.lt_trans (by decide) h3)
  refine ev_ps 3 rfl (ev_call (av := [_, _, _]) rfl rfl rfl rfl ⟨Nat.le_of_ble_eq_true rfl, rfl⟩ ⟨Nat.le_of_ble_eq_true rfl, Nat.le_of_ble_eq_true rfl⟩ (m_in _ _ _) ?_)
  rintro _ w ⟨⟨u1, h1, rfl⟩, rfl⟩
  refine ev_if (cd := .eq) rfl (fun e => no ?_) (fun e1 => ?_)
  · rcases h1 with ⟨q, -⟩ | ⟨-, q⟩
    · exact absurd ((rc_eq_t e).symm.trans q) (by decide)
    · exact fun k => q k.1
  obtain ⟨-, x0, x1⟩ := h1.resolve_right (fun q => rc_eq_f e1 q.1)
  refine ev_ps 3 rfl (ev_call (av := [_, _, _]) rfl rfl rfl rfl ⟨Nat.le_of_ble_eq_true rfl, rfl⟩ ⟨Nat.le_of_ble_eq_true rfl, Nat.le_of_ble_eq_true rfl⟩ (m_in _ _ _) ?_)
  rintro _ w ⟨⟨u2, h2, rfl⟩, rfl⟩
  refine ev_if (cd := .eq) rfl (fun e => no ?_) (fun e2 => ?_)
  · rcases h2 with ⟨q, -⟩ | ⟨-, q⟩
    · exact absurd ((rc_eq_t e).symm.trans q) (by decide)
    · exact fun k => q ⟨k.2.1.1, m3 _ k.2.1.2⟩
  obtain ⟨-, y0, y1⟩ := h2.resolve_right (fun q => rc_eq_f e2 q.1)
  refine ev_ps 3 rfl (ev_call (av := [_, _, _]) rfl rfl rfl rfl ⟨Nat.le_of_ble_eq_true rfl, rfl⟩ ⟨Nat.le_of_ble_eq_true rfl, Nat.le_of_ble_eq_true rfl⟩ (m_in _ _ _) ?_)
  rintro _ w ⟨⟨u3, h3, rfl⟩, rfl⟩
  refine ev_if (cd := .ne) rfl (fun e3 => ?_) (fun e => no ?_)
  rotate_left
  · rcases h3 with ⟨q, -⟩ | ⟨-, q⟩
    · exact absurd ((rc_ne_f e).symm.trans q) (by decide)
    · exact fun k => q ⟨k.2.2.1.1, m3 _ k.2.2.1.2⟩
  obtain ⟨-, z0, z1⟩ := h3.resolve_right (fun q => rc_ne_t e3 q.1)
  have main : ∀ c : Int32, c = rz_gt x → rz_E xs xl 72 73 [some (.int x), some (.int y), some (.int z), some (.int u), none] [.int c] w 0 0 (rz_bx w (rz_okq x y z u)) := by
    intro c hc
    subst hc
    refine ev_ps 4 rfl (ev_call (av := [_, _, _]) rfl rfl rfl rfl ⟨Nat.le_of_ble_eq_true rfl, rfl⟩ ⟨Nat.le_of_ble_eq_true rfl, Nat.le_of_ble_eq_true rfl⟩ (m_in _ _ _) ?_)
    rintro _ _ ⟨⟨u4, h4, rfl⟩, rfl⟩
    refine ev_if (cd := .eq) rfl (fun e => no2 ?_ _) (fun e4 => ?_)
    · rcases h4 with ⟨q, -⟩ | ⟨-, q⟩
      · exact absurd ((rc_eq_t e).symm.trans q) (by decide)
      · exact fun k => q k.2.2.2
    obtain ⟨-, t0, t1⟩ := h4.resolve_right (fun q => rc_eq_f e4 q.1)
    refine ev_ps 2 rfl (ev_ic (cd := .lt) rfl (fun e => ?_) (fun e => ?_))
    · have em : rz_mr x = 3 := if_pos (rc_lt_t e)
      exact ev_ps 2 rfl (ev_ret rfl rfl (rz_bx1 ⟨⟨x0, x1⟩, ⟨y0, by rw [em]; exact y1⟩, ⟨z0, by rw [em]; exact z1⟩, t0, t1⟩))
    · have em : rz_mr x = 0 := if_neg (rc_lt_f e)
      have zz : ∀ c : Int32, ¬ c < 0 → ¬ (0 : Int32) < c → c = 0 := fun c h1 h2 => Int32.le_antisymm (Int32.not_lt.mp h2) (Int32.not_lt.mp h1)
      refine ev_ps 1 rfl (ev_if (cd := .ne) rfl (fun e => no2 (fun k => rc_ne_t e (zz _ k.2.1.1 (by have := k.2.1.2; rw [em] at this; exact this))) _) (fun e5 => ?_))
      refine ev_ps 1 rfl (ev_if (cd := .ne) rfl (fun e => no2 (fun k => rc_ne_t e (zz _ k.2.2.1.1 (by have := k.2.2.1.2; rw [em] at this; exact this))) _) (fun e6 => ?_))
      have ey := rc_ne_f e5
      have ez := rc_ne_f e6
      exact ev_ps 2 rfl (ev_ret rfl rfl (rz_bx1 ⟨⟨x0, x1⟩, ⟨y0, by rw [em, ey]; decide⟩, ⟨z0, by rw [em, ez]; decide⟩, t0, t1⟩))
  refine ev_ps 2 rfl (ev_ic (cd := .gt) rfl (fun e5 => ?_) (fun e5 => ?_))
  · refine ev_ps 2 rfl (ev_ic (cd := .gt) rfl (fun e9 => ?_) (fun e9 => ?_))
    · refine ev_ps 2 rfl (ev_ic (cd := .gt) rfl (fun e11 => ?_) (fun e11 => ?_))
      · refine ev_ps 2 rfl (ev_ic (cd := .gt) rfl (fun e14 => ?_) (fun e14 => ?_))
        · refine ev_ps 1 rfl (main 0 ?_)
          obtain ⟨i, hi, rfl⟩ := rz_le_nat (b := 15) (by decide) x0 x1
          have h14 : 14 < i := (rz_lt_iff (n := 14) (by omega) (by omega)).mp (rc_gt_t e14)
          have e15 : i = 15 := by omega
          subst e15
          rfl
        · refine ev_ps 2 rfl (main 24 ?_)
          rw [rz_gt, if_pos (show (5 : Int32) < x from rc_gt_t e5), if_pos (show (9 : Int32) < x from rc_gt_t e9), if_pos (show (11 : Int32) < x from rc_gt_t e11), if_neg (show ¬ x = 15 from fun q => rc_gt_f e14 (by rw [q]; decide))]
      · exact ev_ps 2 rfl (main 7 (by rw [rz_gt, if_pos (show (5 : Int32) < x from rc_gt_t e5), if_pos (show (9 : Int32) < x from rc_gt_t e9), if_neg (show ¬ (11 : Int32) < x from rc_gt_f e11)]))
    · exact ev_ps 2 rfl (main 15 (by rw [rz_gt, if_pos (show (5 : Int32) < x from rc_gt_t e5), if_neg (show ¬ (9 : Int32) < x from rc_gt_f e9)]))
  · exact ev_ps 2 rfl (main 3 (by rw [rz_gt, if_neg (show ¬ (5 : Int32) < x from rc_gt_f e5)]))
/-- what a method of the class, or of the law's that calls it, leaves -/
def rz_PC (v : Nat → Int32) (a : Nat → Nat → Int32) (P : rz_R → (Nat → Int64) → (Nat → Int32) → (Nat → Nat → Int32) → Prop) (R : Nat → rz_Q) (n r b l : Nat) : rz_R → rz_W → Prop := fun q w' => ∃ v' a' g', P q g' v' a' ∧ w' = rz_w v' a' g' ∧ rz_cf v a v' a' ∧ rz_CC v' a' R n r b l
/-- what a method of the reference leaves -/
def rz_PM (v : Nat → Int32) (a : Nat → Nat → Int32) (g : Nat → Int64) (P : rz_R → (Nat → Int32) → (Nat → Nat → Int32) → Prop) (R : Nat → rz_Q) (n r b l : Nat) : rz_R → rz_W → Prop := fun q w' => ∃ v' a', w' = rz_w v' a' g ∧ P q v' a' ∧ rz_mf v a v' a' ∧ rz_RR v' a' R n r b l
theorem rz_RR_cf {v' : Nat → Int32} {a' : Nat → Nat → Int32} (hf : rz_cf v a v' a') (h : rz_RR v a R n r b l) : rz_RR v' a' R n r b l := by
  obtain ⟨h1, h2, h3, h4, h5, h6, h7, h8, h9, h10⟩ := h
  refine ⟨h1, (hf.1 21 (by omega)).trans h2, fun k hk => ?_, h4, ?_, ?_, ?_, (hf.1 24 (by omega)).trans h8, (hf.1 25 (by omega)).trans h9, (hf.1 26 (by omega)).trans h10⟩
  · rw [hf.2 20 (by omega), hf.2 21 (by omega), hf.2 22 (by omega), hf.2 23 (by omega)]; exact h3 k hk
  · show rz_LI (a' 20 24) (a' 21 24) (a' 22 24) (a' 23 24)
    rw [hf.2 20 (by omega), hf.2 21 (by omega), hf.2 22 (by omega), hf.2 23 (by omega)]; exact h5
  · rw [hf.2 24 (by omega)]; exact h6
  · rw [hf.2 25 (by omega)]; exact h7
theorem rz_CC_mf {v' : Nat → Int32} {a' : Nat → Nat → Int32} (hf : rz_mf v a v' a') (h : rz_CC v a R n r b l) : rz_CC v' a' R n r b l := by
  obtain ⟨h1, h2, h3, h4, h5, h6, h7, L, hL, h8⟩ := h
  exact ⟨h1, (hf.1 0 (by omega)).trans h2, fun k hk => by rw [hf.2 0 (by omega)]; exact h3 k hk, h4, (hf.1 13 (by omega)).trans h5, (hf.1 14 (by omega)).trans h6, (hf.1 15 (by omega)).trans h7, L, hL, (hf.1 8 (by omega)).trans h8⟩
/-- which answer add gives -/
noncomputable def rz_ka (o d s t : Int32) (n : Nat) : Int32 := if rz_dc (rz_okq o d s t) = true then (if n < 24 then 0 else 2) else 1
/-- which answer replace gives -/
noncomputable def rz_kr (x o d s t : Int32) (n : Nat) : Int32 := if rz_dc (rz_okq o d s t) = true then (if rz_dc (¬ x < 0 ∧ x < Int32.ofNat n) = true then 0 else 2) else 1
def rz_Ra (R : Nat → rz_Q) (k : Nat) (q : rz_Q) (c : Int32) : Nat → rz_Q := if c = 0 then rz_ur R k q else R
def rz_nag (n : Nat) (c : Int32) : Nat := if c = 0 then n + 1 else n
/-- which answer instruction gives -/
noncomputable def rz_ki (x y : Int32) (n : Nat) : Int32 := if rz_dc (¬ y < 0 ∧ ¬ 3 < y) = true then (if rz_dc (¬ x < 0 ∧ x < Int32.ofNat n) = true then 0 else 2) else 1
def rz_part (q : rz_Q) (y : Int32) : Int32 := if y = 0 then Int32.ofNat q.1 else if y = 1 then Int32.ofNat q.2.1 else if y = 2 then Int32.ofNat q.2.2.1 else Int32.ofNat q.2.2.2
/-- which answer live, and block, give -/
noncomputable def rz_kl (x : Int32) (n : Nat) : Int32 := if rz_dc (¬ x < 0 ∧ ¬ Int32.ofNat n < x) = true then 0 else 1
noncomputable def rz_kb (x : Int32) (n : Nat) : Int32 := if rz_dc (¬ x < 0 ∧ x < Int32.ofNat n) = true then 0 else 1
noncomputable def rz_bk (R : Nat → rz_Q) (n : Nat) : Nat → Nat
  | 0 => 0
  | k + 1 => if rz_dc (rz_bn R n (k + 1)) = true then k + 1 else rz_bk R n k
def rz_cn (x : Int32) (r b l : Nat) : Int32 := if x = 0 then Int32.ofNat r else if x = 1 then Int32.ofNat b else if x = 2 then Int32.ofNat l else -1
theorem rz_CC.add {q : rz_Q} (h : rz_CC v a R n r b l) (hn : n < 24) (hq : rz_lg q) : rz_CC (rz_up v 0 (Int32.ofNat (n + 1))) (rz_ua a 0 (upd (a 0) n (rz_pk q))) (rz_ur R n q) (n + 1) r b l := by
  obtain ⟨h1, h2, h3, h4, h5⟩ := h
  refine ⟨by omega, rfl, fun k hk => ?_, fun k hk => ?_, h5⟩
  · show upd (a 0) n (rz_pk q) k = rz_pk (rz_ur R n q k)
    by_cases hkn : k = n
    · simp [upd, rz_ur, hkn]
    · simp only [upd, rz_ur, hkn, if_false]; exact h3 k (by omega)
  · unfold rz_ur
    by_cases hkn : k = n
    · rw [if_pos hkn]; exact hq
    · rw [if_neg hkn]; exact h4 k (by omega)
theorem rz_CC.put {q : rz_Q} {p : Nat} (h : rz_CC v a R n r b l) (hq : rz_lg q) : rz_CC v (rz_ua a 0 (upd (a 0) p (rz_pk q))) (rz_ur R p q) n r b l := by
  obtain ⟨h1, h2, h3, h4, h5⟩ := h
  refine ⟨h1, h2, fun k hk => ?_, fun k hk => ?_, h5⟩
  · show upd (a 0) p (rz_pk q) k = rz_pk (rz_ur R p q k)
    by_cases hkn : k = p
    · simp [upd, rz_ur, hkn]
    · simp only [upd, rz_ur, hkn, if_false]; exact h3 k (by omega)
  · unfold rz_ur
    by_cases hkn : k = p
    · rw [if_pos hkn]; exact hq
    · rw [if_neg hkn]; exact h4 k (by omega)
theorem rz_RR.add {x0 x1 x2 x3 : Int32} {q : rz_Q} (h : rz_RR v a R n r b l) (hn : n < 24) (hq : rz_lg q) (e : x0 = Int32.ofNat q.1 ∧ x1 = Int32.ofNat q.2.1 ∧ x2 = Int32.ofNat q.2.2.1 ∧ x3 = Int32.ofNat q.2.2.2) : rz_RR (rz_up v 21 (Int32.ofNat (n + 1))) (rz_pt a n x0 x1 x2 x3) (rz_ur R n q) (n + 1) r b l := by
  obtain ⟨h1, h2, h3, h4, h5, h6⟩ := h
  have hLI : rz_LI x0 x1 x2 x3 := ⟨_, _, _, _, e.1, e.2.1, e.2.2.1, e.2.2.2, hq.1, hq.2.1, hq.2.2.1, hq.2.2.2.1, hq.2.2.2.2⟩
  refine ⟨by omega, rfl, fun k hk => ?_, fun k hk => ?_, rz_pt_li (fun _ => hLI) (fun _ => h5), h6⟩
  · exact rz_pt_ro (fun hkn => by unfold rz_ur; rw [if_pos hkn]; exact e) (fun hkn => by unfold rz_ur; rw [if_neg hkn]; exact h3 k (by omega))
  · unfold rz_ur
    by_cases hkn : k = n
    · rw [if_pos hkn]; exact hq
    · rw [if_neg hkn]; exact h4 k (by omega)
theorem rz_RR.put {x0 x1 x2 x3 : Int32} {q : rz_Q} {p : Nat} (h : rz_RR v a R n r b l) (hq : rz_lg q) (e : x0 = Int32.ofNat q.1 ∧ x1 = Int32.ofNat q.2.1 ∧ x2 = Int32.ofNat q.2.2.1 ∧ x3 = Int32.ofNat q.2.2.2) : rz_RR v (rz_pt a p x0 x1 x2 x3) (rz_ur R p q) n r b l := by
  obtain ⟨h1, h2, h3, h4, h5, h6⟩ := h
  have hLI : rz_LI x0 x1 x2 x3 := ⟨_, _, _, _, e.1, e.2.1, e.2.2.1, e.2.2.2, hq.1, hq.2.1, hq.2.2.1, hq.2.2.2.1, hq.2.2.2.2⟩
  refine ⟨h1, h2, fun k hk => ?_, fun k hk => ?_, rz_pt_li (fun _ => hLI) (fun _ => h5), h6⟩
  · exact rz_pt_ro (fun hkn => by unfold rz_ur; rw [if_pos hkn]; exact e) (fun hkn => by unfold rz_ur; rw [if_neg hkn]; exact h3 k hk)
  · unfold rz_ur
    by_cases hkn : k = p
    · rw [if_pos hkn]; exact hq
    · rw [if_neg hkn]; exact h4 k (by omega)
theorem y_append (x : Int32) (hv : v 0 = Int32.ofNat n) (hn : n < 24) : rz_C xs xl 54 [.ref 1, .int x] (rz_w v a g) (fun q w' => q = .inl (some (.int (Int32.ofNat n))) ∧ w' = rz_w (rz_up v 0 (Int32.ofNat (n + 1))) (rz_ua a 0 (upd (a 0) n x)) g) := by
  refine ev_ps 5 rfl (ev_ast rfl rfl (by rw [hv]; exact rz_in hn (by decide)) ?_)
  refine ev_w (w2 := rz_w v (rz_ua a 0 (upd (a 0) n x)) g) (by rw [hv, rz_clamp (by omega)]; rfl) ?_
  refine ev_ps 6 rfl (ev_w (w2 := rz_w (rz_up v 0 (Int32.ofNat (n + 1))) (rz_ua a 0 (upd (a 0) n x)) g) (by rw [← rz_succ n, ← hv]; rfl) ?_)
  refine ev_ps 4 rfl (ev_ret rfl rfl ⟨?_, rfl⟩)
  have e : Int32.ofNat (n + 1) - 1 = Int32.ofNat n := rz_sub (k := n + 1) (n := 1) (by omega)
  exact congrArg (fun z => (Sum.inl (some (Value.int z)) : rz_R)) e
theorem y_put {k : Nat} (x : Int32) (hk : k < 24) : rz_C xs xl 56 [.ref 1, .int (Int32.ofNat k), .int x] (rz_w v a g) (fun q w' => q = .inl none ∧ w' = rz_w v (rz_ua a 0 (upd (a 0) k x)) g) := by
  refine ev_ps 4 rfl (ev_ast rfl rfl (rz_in hk (by decide)) ?_)
  exact ev_ret rfl rfl ⟨rfl, by rw [rz_clamp (by omega)]; rfl⟩
theorem y_isFull : rz_C xs xl 53 [.ref 1] (rz_w v a g) (rz_bx (rz_w v a g) (¬ v 0 < 24)) := by
  refine ev_ps 3 rfl (ev_ic (cd := .lt) rfl (fun h1 => ?_) (fun h1 => ?_))
  · exact ev_ps 1 rfl (ev_ret rfl rfl (rz_bx0 (fun z => z (rc_lt_t h1))))
  · exact ev_ps 2 rfl (ev_ret rfl rfl (rz_bx1 (rc_lt_f h1)))
theorem ev_tswd {M pc : Nat} {L : rz_L} {st : List Value} {kc ks : Nat} {post : rz_R → rz_W → Prop} {d lo hi : Int} {offs : Array Int} {len x y z : Nat} {u : Int32} (hc : rz_code M pc = some (0, .tableswitch d lo hi offs, len, x, y, z)) (hu : u.toInt < lo ∨ hi < u.toInt) (k : rz_E xs xl M (rz_tg pc d) L st w kc ks post) : rz_E xs xl M pc L (.int u :: st) w kc ks post := by
  refine ev_p hc rfl ?_
  rw [if_pos hu]
  exact k
theorem p_addX (hC : rz_CC v a R n r b l) (x0 x1 x2 x3 : Int32) : rz_C xs xl 50 [.ref 0, .int x0, .int x1, .int x2, .int x3] (rz_w v a g) (rz_PC v a (fun q g' v' a' => ((rz_ka x0 x1 x2 x3 n = 0 ∧ q = .inl (some (.int (Int32.ofNat n)))) ∨ (rz_ka x0 x1 x2 x3 n = 1 ∧ q = .inr 0) ∨ (rz_ka x0 x1 x2 x3 n = 2 ∧ q = .inr 1)) ∧ g' = g ∧ rz_kc v a v' a') (rz_Ra R n (rz_qq x0 x1 x2 x3) (rz_ka x0 x1 x2 x3 n)) (rz_nag n (rz_ka x0 x1 x2 x3 n)) r b l) := by
  have hn := hC.1
  refine ev_ps 4 rfl (ev_call (av := [_, _, _, _]) rfl rfl rfl rfl ⟨Nat.le_of_ble_eq_true rfl, rfl⟩ ⟨Nat.le_of_ble_eq_true rfl, Nat.le_of_ble_eq_true rfl⟩ (x_isLegal _ _ _ _) ?_)
  rintro _ _ ⟨⟨u, hu, hui, rfl⟩, rfl⟩
  refine ev_if (cd := .ne) rfl (fun h => ?_) (fun h => ?_)
  rotate_left
  · have hno : ¬ rz_okq x0 x1 x2 x3 := fun z => absurd ((rc_ne_f h).symm.trans (hui.mpr z)) (by decide)
    have e : rz_ka x0 x1 x2 x3 n = 1 := by rw [rz_ka, rz_dc_f hno]; rfl
    rw [e]
    exact ev_thr rfl ⟨Nat.le_of_ble_eq_true rfl, Nat.le_of_ble_eq_true rfl⟩ ⟨v, a, g, ⟨Or.inr (Or.inl ⟨rfl, rfl⟩), rfl, rz_kc.rf⟩, rfl, rz_cf.rf, hC⟩
  have hok : rz_okq x0 x1 x2 x3 := hui.mp (hu.resolve_left (rc_ne_t h))
  refine ev_ps 2 rfl (ev_call (av := [_]) rfl rfl rfl rfl ⟨Nat.le_of_ble_eq_true rfl, rfl⟩ ⟨Nat.le_of_ble_eq_true rfl, Nat.le_of_ble_eq_true rfl⟩ (y_isFull) ?_)
  rintro _ _ ⟨⟨u2, hu2, hui2, rfl⟩, rfl⟩
  refine ev_if (cd := .eq) rfl (fun h2 => ?_) (fun h2 => ?_)
  · have hlt : v 0 < 24 := Classical.byContradiction fun z => absurd ((rc_eq_t h2).symm.trans (hui2.mpr z)) (by decide)
    rw [hC.2.1] at hlt
    have hn' : n < 24 := (rz_lt_iff (k := 24) (by omega) (by omega)).mp hlt
    have e : rz_ka x0 x1 x2 x3 n = 0 := by rw [rz_ka, rz_dc_t hok, if_pos rfl, if_pos hn']
    rw [e]
    obtain ⟨hlg, e1, e2, e3, e4⟩ := rz_okq_lg hok
    refine ev_ps 6 rfl (ev_call (av := [_, _, _, _]) rfl rfl rfl rfl ⟨Nat.le_of_ble_eq_true rfl, rfl⟩ ⟨Nat.le_of_ble_eq_true rfl, Nat.le_of_ble_eq_true rfl⟩ (c_pack _ _ _ _) ?_)
    rintro _ _ ⟨rfl, rfl⟩
    rw [show (x0 <<< 9 ||| x1 <<< 7 ||| x2 <<< 5 ||| x3) = rz_pk (rz_qq x0 x1 x2 x3) from by rw [rz_pk, ← e1, ← e2, ← e3, ← e4]]
    refine ev_call (av := [_, _]) rfl rfl rfl rfl ⟨Nat.le_of_ble_eq_true rfl, rfl⟩ ⟨Nat.le_of_ble_eq_true rfl, Nat.le_of_ble_eq_true rfl⟩ (y_append _ hC.2.1 hn') ?_
    rintro _ _ ⟨rfl, rfl⟩
    exact ev_ret rfl rfl ⟨_, _, g, ⟨Or.inl ⟨rfl, rfl⟩, rfl, (rz_kc.rf.up (by decide) _).ua (by decide) _⟩, rfl, (rz_cf.rf.up (by decide) _).ua (by decide) _, hC.add hn' hlg⟩
  · have hnl : ¬ v 0 < 24 := hui2.mp (hu2.resolve_left (rc_eq_f h2))
    rw [hC.2.1] at hnl
    have hn' : ¬ n < 24 := fun z => hnl ((rz_lt_iff (k := 24) (by omega) (by omega)).mpr z)
    have e : rz_ka x0 x1 x2 x3 n = 2 := by rw [rz_ka, rz_dc_t hok, if_pos rfl, if_neg hn']
    rw [e]
    exact ev_thr rfl ⟨Nat.le_of_ble_eq_true rfl, Nat.le_of_ble_eq_true rfl⟩ ⟨v, a, g, ⟨Or.inr (Or.inr ⟨rfl, rfl⟩), rfl, rz_kc.rf⟩, rfl, rz_cf.rf, hC⟩
theorem l_addX (hC : rz_CC v a R n r b l) (x0 x1 x2 x3 : Int32) : rz_C xs xl 104 [.ref 0, .int x0, .int x1, .int x2, .int x3, .ref 35] (rz_w v a g) (rz_PC v a (fun q g' v' a' => q = .inl (some (.int (rz_ka x0 x1 x2 x3 n))) ∧ (rz_ka x0 x1 x2 x3 n = 0 → g' 0 = (Int32.ofNat n).toInt64) ∧ rz_kc v a v' a') (rz_Ra R n (rz_qq x0 x1 x2 x3) (rz_ka x0 x1 x2 x3 n)) (rz_nag n (rz_ka x0 x1 x2 x3 n)) r b l) := by
  refine ev_ps 7 rfl (ev_call (av := [_, _, _, _, _]) rfl rfl rfl rfl ⟨Nat.le_of_ble_eq_true rfl, rfl⟩ ⟨Nat.le_of_ble_eq_true rfl, Nat.le_of_ble_eq_true rfl⟩ (p_addX hC _ _ _ _) ?_)
  rintro _ _ ⟨v2, a2, _, ⟨hor, rfl, hk⟩, rfl, h1, h2⟩
  generalize rz_ka x0 x1 x2 x3 n = kk at hor h2 ⊢
  rcases hor with ⟨rfl, rfl⟩ | ⟨rfl, rfl⟩ | ⟨rfl, rfl⟩
  · exact ev_ps 4 rfl (ev_ret rfl rfl ⟨_, _, _, ⟨rfl, fun _ => rfl, hk⟩, rfl, h1, h2⟩)
  · exact ⟨19, 6, rfl, ev_ps 1 rfl (ev_ret rfl rfl ⟨_, _, _, ⟨rfl, fun z => absurd z (by decide), hk⟩, rfl, h1, h2⟩)⟩
  · exact ⟨23, 6, rfl, ev_ps 1 rfl (ev_ret rfl rfl ⟨_, _, _, ⟨rfl, fun z => absurd z (by decide), hk⟩, rfl, h1, h2⟩)⟩
theorem p_replaceX (hC : rz_CC v a R n r b l) (x0 x1 x2 x3 x4 : Int32) : rz_C xs xl 55 [.ref 0, .int x0, .int x1, .int x2, .int x3, .int x4] (rz_w v a g) (rz_PC v a (fun q g' v' a' => ((rz_kr x0 x1 x2 x3 x4 n = 0 ∧ q = .inl none) ∨ (rz_kr x0 x1 x2 x3 x4 n = 1 ∧ q = .inr 0) ∨ (rz_kr x0 x1 x2 x3 x4 n = 2 ∧ q = .inr 2)) ∧ g' = g ∧ rz_kc v a v' a') (rz_Ra R x0.toNatClampNeg (rz_qq x1 x2 x3 x4) (rz_kr x0 x1 x2 x3 x4 n)) n r b l) := by
  have hn := hC.1
  refine ev_ps 4 rfl (ev_call (av := [_, _, _, _]) rfl rfl rfl rfl ⟨Nat.le_of_ble_eq_true rfl, rfl⟩ ⟨Nat.le_of_ble_eq_true rfl, Nat.le_of_ble_eq_true rfl⟩ (x_isLegal _ _ _ _) ?_)
  rintro _ _ ⟨⟨u, hu, hui, rfl⟩, rfl⟩
  refine ev_if (cd := .ne) rfl (fun h => ?_) (fun h => ?_)
  rotate_left
  · have hno : ¬ rz_okq x1 x2 x3 x4 := fun z => absurd ((rc_ne_f h).symm.trans (hui.mpr z)) (by decide)
    have e : rz_kr x0 x1 x2 x3 x4 n = 1 := by rw [rz_kr, rz_dc_f hno]; rfl
    rw [e]
    exact ev_thr rfl ⟨Nat.le_of_ble_eq_true rfl, Nat.le_of_ble_eq_true rfl⟩ ⟨v, a, g, ⟨Or.inr (Or.inl ⟨rfl, rfl⟩), rfl, rz_kc.rf⟩, rfl, rz_cf.rf, hC⟩
  have hok : rz_okq x1 x2 x3 x4 := hui.mp (hu.resolve_left (rc_ne_t h))
  refine ev_ps 3 rfl (ev_call (av := [_, _]) rfl rfl rfl rfl ⟨Nat.le_of_ble_eq_true rfl, rfl⟩ ⟨Nat.le_of_ble_eq_true rfl, Nat.le_of_ble_eq_true rfl⟩ (y_has _) ?_)
  rintro _ _ ⟨⟨u2, hu2, hui2, rfl⟩, rfl⟩
  rw [hC.2.1] at hui2
  refine ev_if (cd := .ne) rfl (fun h2 => ?_) (fun h2 => ?_)
  · have hin := hui2.mp (hu2.resolve_left (rc_ne_t h2))
    have e : rz_kr x0 x1 x2 x3 x4 n = 0 := by rw [rz_kr, rz_dc_t hok, if_pos rfl, rz_dc_t hin, if_pos rfl]
    rw [e]
    obtain ⟨hlg, e1, e2, e3, e4⟩ := rz_okq_lg hok
    obtain ⟨p, hp, rfl⟩ := rz_idx (by omega) hin.1 hin.2
    refine ev_ps 7 rfl (ev_call (av := [_, _, _, _]) rfl rfl rfl rfl ⟨Nat.le_of_ble_eq_true rfl, rfl⟩ ⟨Nat.le_of_ble_eq_true rfl, Nat.le_of_ble_eq_true rfl⟩ (c_pack _ _ _ _) ?_)
    rintro _ _ ⟨rfl, rfl⟩
    rw [show (x1 <<< 9 ||| x2 <<< 7 ||| x3 <<< 5 ||| x4) = rz_pk (rz_qq x1 x2 x3 x4) from by rw [rz_pk, ← e1, ← e2, ← e3, ← e4]]
    refine ev_call (av := [_, _, _]) rfl rfl rfl rfl ⟨Nat.le_of_ble_eq_true rfl, rfl⟩ ⟨Nat.le_of_ble_eq_true rfl, Nat.le_of_ble_eq_true rfl⟩ (y_put _ (by omega)) ?_
    rintro _ _ ⟨rfl, rfl⟩
    refine ev_ret rfl rfl ⟨_, _, g, ⟨Or.inl ⟨rfl, rfl⟩, rfl, rz_kc.rf.ua (by decide) _⟩, rfl, rz_cf.rf.ua (by decide) _, ?_⟩
    rw [rz_clamp (by omega)]
    exact hC.put hlg
  · have hin : ¬ (¬ x0 < 0 ∧ x0 < Int32.ofNat n) := fun z => absurd ((rc_ne_f h2).symm.trans (hui2.mpr z)) (by decide)
    have e : rz_kr x0 x1 x2 x3 x4 n = 2 := by rw [rz_kr, rz_dc_t hok, if_pos rfl, rz_dc_f hin, if_neg (by decide)]
    rw [e]
    exact ev_thr rfl ⟨Nat.le_of_ble_eq_true rfl, Nat.le_of_ble_eq_true rfl⟩ ⟨v, a, g, ⟨Or.inr (Or.inr ⟨rfl, rfl⟩), rfl, rz_kc.rf⟩, rfl, rz_cf.rf, hC⟩
theorem l_replaceX (hC : rz_CC v a R n r b l) (x0 x1 x2 x3 x4 : Int32) : rz_C xs xl 105 [.ref 0, .int x0, .int x1, .int x2, .int x3, .int x4] (rz_w v a g) (rz_PC v a (fun q g' v' a' => q = .inl (some (.int (rz_kr x0 x1 x2 x3 x4 n))) ∧ rz_kc v a v' a') (rz_Ra R x0.toNatClampNeg (rz_qq x1 x2 x3 x4) (rz_kr x0 x1 x2 x3 x4 n)) n r b l) := by
  refine ev_ps 6 rfl (ev_call (av := [_, _, _, _, _, _]) rfl rfl rfl rfl ⟨Nat.le_of_ble_eq_true rfl, rfl⟩ ⟨Nat.le_of_ble_eq_true rfl, Nat.le_of_ble_eq_true rfl⟩ (p_replaceX hC _ _ _ _ _) ?_)
  rintro _ _ ⟨v2, a2, _, ⟨hor, rfl, hk⟩, rfl, h1, h2⟩
  generalize rz_kr x0 x1 x2 x3 x4 n = kk at hor h2 ⊢
  rcases hor with ⟨rfl, rfl⟩ | ⟨rfl, rfl⟩ | ⟨rfl, rfl⟩
  · exact ev_ps 2 rfl (ev_ret rfl rfl ⟨_, _, _, ⟨rfl, hk⟩, rfl, h1, h2⟩)
  · exact ⟨16, 6, rfl, ev_ps 1 rfl (ev_ret rfl rfl ⟨_, _, _, ⟨rfl, hk⟩, rfl, h1, h2⟩)⟩
  · exact ⟨20, 6, rfl, ev_ps 1 rfl (ev_ret rfl rfl ⟨_, _, _, ⟨rfl, hk⟩, rfl, h1, h2⟩)⟩
theorem p_clearX (hC : rz_CC v a R n r b l) : rz_C xs xl 1 [.ref 0] (rz_w v a g) (rz_PC v a (fun q g' v' a' => q = .inl (some (.int (Int32.ofNat n))) ∧ rz_kc v a v' a') R 0 r b l) := by
  refine ev_ps 2 rfl (ev_call (av := [_]) rfl rfl rfl rfl ⟨Nat.le_of_ble_eq_true rfl, rfl⟩ ⟨Nat.le_of_ble_eq_true rfl, Nat.le_of_ble_eq_true rfl⟩ (c_empty) ?_)
  rintro _ _ ⟨rfl, rfl⟩
  rw [hC.2.1]
  exact ev_ret rfl rfl ⟨_, _, g, ⟨rfl, rz_kc.rf.up (by decide) _⟩, rfl, rz_cf.rf.up (by decide) _, by omega, rfl, fun k hk => absurd hk (Nat.not_lt_zero _), fun k hk => absurd hk (Nat.not_lt_zero _), hC.2.2.2.2⟩
theorem p_sizeX (hC : rz_CC v a R n r b l) : rz_C xs xl 3 [.ref 0] (rz_w v a g) (rz_PC v a (fun q g' v' a' => q = .inl (some (.int (Int32.ofNat n))) ∧ rz_kc v a v' a') R n r b l) := by
  refine ev_ps 2 rfl (ev_call (av := [_]) rfl rfl rfl rfl ⟨Nat.le_of_ble_eq_true rfl, rfl⟩ ⟨Nat.le_of_ble_eq_true rfl, Nat.le_of_ble_eq_true rfl⟩ (c_length) ?_)
  rintro _ _ ⟨rfl, rfl⟩
  rw [hC.2.1]
  exact ev_ret rfl rfl ⟨_, _, g, ⟨rfl, rz_kc.rf⟩, rfl, rz_cf.rf, hC⟩
theorem x_part {q : rz_Q} {y : Int32} (hq : rz_lg q) (h0 : ¬ y < 0) (h3 : ¬ 3 < y) : rz_C xs xl 58 [.int (rz_pk q), .int y] w (fun u w' => u = .inl (some (.int (rz_part q y))) ∧ w' = w) := by
  obtain ⟨k, hk, rfl⟩ := rz_le_nat (b := 3) (by decide) h0 h3
  rcases (show k = 0 ∨ k = 1 ∨ k = 2 ∨ k = 3 by omega) with rfl | rfl | rfl | rfl
  · refine ev_ps 3 rfl (ev_call (av := [_]) rfl rfl rfl rfl ⟨Nat.le_of_ble_eq_true rfl, rfl⟩ ⟨Nat.le_of_ble_eq_true rfl, Nat.le_of_ble_eq_true rfl⟩ (x_op hq) ?_)
    rintro _ _ ⟨rfl, rfl⟩
    exact ev_ret rfl rfl ⟨rfl, rfl⟩
  · refine ev_ps 3 rfl (ev_call (av := [_]) rfl rfl rfl rfl ⟨Nat.le_of_ble_eq_true rfl, rfl⟩ ⟨Nat.le_of_ble_eq_true rfl, Nat.le_of_ble_eq_true rfl⟩ (x_d hq) ?_)
    rintro _ _ ⟨rfl, rfl⟩
    exact ev_ret rfl rfl ⟨rfl, rfl⟩
  · refine ev_ps 3 rfl (ev_call (av := [_]) rfl rfl rfl rfl ⟨Nat.le_of_ble_eq_true rfl, rfl⟩ ⟨Nat.le_of_ble_eq_true rfl, Nat.le_of_ble_eq_true rfl⟩ (x_s hq) ?_)
    rintro _ _ ⟨rfl, rfl⟩
    exact ev_ret rfl rfl ⟨rfl, rfl⟩
  · refine ev_ps 3 rfl (ev_call (av := [_]) rfl rfl rfl rfl ⟨Nat.le_of_ble_eq_true rfl, rfl⟩ ⟨Nat.le_of_ble_eq_true rfl, Nat.le_of_ble_eq_true rfl⟩ (x_t hq) ?_)
    rintro _ _ ⟨rfl, rfl⟩
    exact ev_ret rfl rfl ⟨rfl, rfl⟩
theorem p_instructionX (hC : rz_CC v a R n r b l) (x0 x1 : Int32) : rz_C xs xl 57 [.ref 0, .int x0, .int x1] (rz_w v a g) (rz_PC v a (fun q g' v' a' => ((rz_ki x0 x1 n = 0 ∧ q = .inl (some (.int (rz_part (R x0.toNatClampNeg) x1)))) ∨ (rz_ki x0 x1 n = 1 ∧ q = .inr 0) ∨ (rz_ki x0 x1 n = 2 ∧ q = .inr 2)) ∧ rz_kc v a v' a') R n r b l) := by
  have hn := hC.1
  have bad : ¬ (¬ x1 < 0 ∧ ¬ 3 < x1) → rz_ki x0 x1 n = 1 := fun h => by rw [rz_ki, rz_dc_f h]; rfl
  refine ev_ps 1 rfl (ev_if (cd := .lt) rfl (fun h => ?_) (fun h => ?_))
  · exact ev_thr rfl ⟨Nat.le_of_ble_eq_true rfl, Nat.le_of_ble_eq_true rfl⟩ ⟨v, a, g, ⟨Or.inr (Or.inl ⟨bad (fun z => z.1 (rc_lt_t h)), rfl⟩), rz_kc.rf⟩, rfl, rz_cf.rf, hC⟩
  refine ev_ps 2 rfl (ev_ic (cd := .le) rfl (fun h3 => ?_) (fun h3 => ?_))
  rotate_left
  · exact ev_thr rfl ⟨Nat.le_of_ble_eq_true rfl, Nat.le_of_ble_eq_true rfl⟩ ⟨v, a, g, ⟨Or.inr (Or.inl ⟨bad (fun z => rc_le_f h3 (Int32.not_lt.mp z.2)), rfl⟩), rz_kc.rf⟩, rfl, rz_cf.rf, hC⟩
  have hw : ¬ x1 < 0 ∧ ¬ 3 < x1 := ⟨rc_lt_f h, Int32.not_lt.mpr (rc_le_t h3)⟩
  refine ev_ps 3 rfl (ev_call (av := [_, _]) rfl rfl rfl rfl ⟨Nat.le_of_ble_eq_true rfl, rfl⟩ ⟨Nat.le_of_ble_eq_true rfl, Nat.le_of_ble_eq_true rfl⟩ (y_has _) ?_)
  rintro _ _ ⟨⟨u2, hu2, hui2, rfl⟩, rfl⟩
  rw [hC.2.1] at hui2
  refine ev_if (cd := .ne) rfl (fun h2 => ?_) (fun h2 => ?_)
  · have hin := hui2.mp (hu2.resolve_left (rc_ne_t h2))
    have e : rz_ki x0 x1 n = 0 := by rw [rz_ki, rz_dc_t hw, if_pos rfl, rz_dc_t hin, if_pos rfl]
    obtain ⟨p, hp, rfl⟩ := rz_idx (by omega) hin.1 hin.2
    refine ev_ps 3 rfl (ev_call (av := [_, _]) rfl rfl rfl rfl ⟨Nat.le_of_ble_eq_true rfl, rfl⟩ ⟨Nat.le_of_ble_eq_true rfl, Nat.le_of_ble_eq_true rfl⟩ (y_codeAt (by omega)) ?_)
    rintro _ _ ⟨rfl, rfl⟩
    rw [hC.2.2.1 p hp]
    refine ev_ps 1 rfl (ev_call (av := [_, _]) rfl rfl rfl rfl ⟨Nat.le_of_ble_eq_true rfl, rfl⟩ ⟨Nat.le_of_ble_eq_true rfl, Nat.le_of_ble_eq_true rfl⟩ (x_part (hC.2.2.2.1 p hp) hw.1 hw.2) ?_)
    rintro _ _ ⟨rfl, rfl⟩
    exact ev_ret rfl rfl ⟨v, a, g, ⟨Or.inl ⟨e, by rw [rz_clamp (by omega)]⟩, rz_kc.rf⟩, rfl, rz_cf.rf, hC⟩
  · have hin : ¬ (¬ x0 < 0 ∧ x0 < Int32.ofNat n) := fun z => absurd ((rc_ne_f h2).symm.trans (hui2.mpr z)) (by decide)
    have e : rz_ki x0 x1 n = 2 := by rw [rz_ki, rz_dc_t hw, if_pos rfl, rz_dc_f hin, if_neg (by decide)]
    exact ev_thr rfl ⟨Nat.le_of_ble_eq_true rfl, Nat.le_of_ble_eq_true rfl⟩ ⟨v, a, g, ⟨Or.inr (Or.inr ⟨e, rfl⟩), rz_kc.rf⟩, rfl, rz_cf.rf, hC⟩
theorem l_instructionX (hC : rz_CC v a R n r b l) (x0 x1 : Int32) : rz_C xs xl 106 [.ref 0, .int x0, .int x1, .ref 35] (rz_w v a g) (rz_PC v a (fun q g' v' a' => q = .inl (some (.int (rz_ki x0 x1 n))) ∧ (rz_ki x0 x1 n = 0 → g' 0 = (rz_part (R x0.toNatClampNeg) x1).toInt64) ∧ rz_kc v a v' a') R n r b l) := by
  refine ev_ps 5 rfl (ev_call (av := [_, _, _]) rfl rfl rfl rfl ⟨Nat.le_of_ble_eq_true rfl, rfl⟩ ⟨Nat.le_of_ble_eq_true rfl, Nat.le_of_ble_eq_true rfl⟩ (p_instructionX hC _ _) ?_)
  rintro _ _ ⟨v2, a2, g2, ⟨hor, hk⟩, rfl, h1, h2⟩
  generalize rz_ki x0 x1 n = kk at hor ⊢
  rcases hor with ⟨rfl, rfl⟩ | ⟨rfl, rfl⟩ | ⟨rfl, rfl⟩
  · exact ev_ps 4 rfl (ev_ret rfl rfl ⟨_, _, _, ⟨rfl, fun _ => rfl, hk⟩, rfl, h1, h2⟩)
  · exact ⟨15, 4, rfl, ev_ps 1 rfl (ev_ret rfl rfl ⟨_, _, _, ⟨rfl, fun z => absurd z (by decide), hk⟩, rfl, h1, h2⟩)⟩
  · exact ⟨19, 4, rfl, ev_ps 1 rfl (ev_ret rfl rfl ⟨_, _, _, ⟨rfl, fun z => absurd z (by decide), hk⟩, rfl, h1, h2⟩)⟩
theorem p_liveX (hC : rz_CC v a R n r b l) (x : Int32) : rz_C xs xl 65 [.ref 0, .int x] (rz_w v a g) (rz_PC v a (fun q g' v' a' => ((rz_kl x n = 0 ∧ q = .inl (some (.int (rz_S R n x.toNatClampNeg)))) ∨ (rz_kl x n = 1 ∧ q = .inr 2)) ∧ rz_kc v a v' a') R n r b l) := by
  have hn := hC.1
  have bad : ¬ (¬ x < 0 ∧ ¬ Int32.ofNat n < x) → rz_kl x n = 1 := fun h => by rw [rz_kl, rz_dc_f h]; rfl
  refine ev_ps 1 rfl (ev_if (cd := .lt) rfl (fun h => ?_) (fun h => ?_))
  · exact ev_thr rfl ⟨Nat.le_of_ble_eq_true rfl, Nat.le_of_ble_eq_true rfl⟩ ⟨v, a, g, ⟨Or.inr ⟨bad (fun z => z.1 (rc_lt_t h)), rfl⟩, rz_kc.rf⟩, rfl, rz_cf.rf, hC⟩
  refine ev_ps 3 rfl (ev_call (av := [_]) rfl rfl rfl rfl ⟨Nat.le_of_ble_eq_true rfl, rfl⟩ ⟨Nat.le_of_ble_eq_true rfl, Nat.le_of_ble_eq_true rfl⟩ (c_length) ?_)
  rintro _ _ ⟨rfl, rfl⟩
  rw [hC.2.1]
  refine ev_ic (cd := .le) rfl (fun h2 => ?_) (fun h2 => ?_)
  · have hin : ¬ x < 0 ∧ ¬ Int32.ofNat n < x := ⟨rc_lt_f h, Int32.not_lt.mpr (rc_le_t h2)⟩
    obtain ⟨k, hk, rfl⟩ := rz_le_nat (by omega) hin.1 hin.2
    refine ev_ps 4 rfl (ev_call (av := [_, _]) rfl rfl rfl rfl ⟨Nat.le_of_ble_eq_true rfl, rfl⟩ ⟨Nat.le_of_ble_eq_true rfl, Nat.le_of_ble_eq_true rfl⟩ (z_findFor_6 hC.2.1 hn hC.2.2.1 hC.2.2.2.1) ?_)
    rintro _ _ ⟨rfl, f, rfl, hf⟩
    refine ev_ps 3 rfl (ev_call (av := [_, _]) rfl rfl rfl rfl ⟨Nat.le_of_ble_eq_true rfl, rfl⟩ ⟨Nat.le_of_ble_eq_true rfl, Nat.le_of_ble_eq_true rfl⟩ (z_before_6 (by omega)) ?_)
    rintro _ _ ⟨rfl, rfl⟩
    rw [show rz_ua a 3 f 3 k = rz_S R n k from hf k hk]
    exact ev_ret rfl rfl ⟨_, _, g, ⟨Or.inl ⟨by rw [rz_kl, rz_dc_t hin, if_pos rfl], by rw [rz_clamp (by omega)]⟩, rz_kc.rf.ua (by decide) f⟩, rfl, rz_cf.rf.ua (by decide) f, hC⟩
  · exact ev_thr rfl ⟨Nat.le_of_ble_eq_true rfl, Nat.le_of_ble_eq_true rfl⟩ ⟨v, a, g, ⟨Or.inr ⟨bad (fun z => rc_le_f h2 (Int32.not_lt.mp z.2)), rfl⟩, rz_kc.rf⟩, rfl, rz_cf.rf, hC⟩
theorem l_liveX (hC : rz_CC v a R n r b l) (x0 : Int32) : rz_C xs xl 109 [.ref 0, .int x0, .ref 35] (rz_w v a g) (rz_PC v a (fun q g' v' a' => q = .inl (some (.int (rz_kl x0 n))) ∧ (rz_kl x0 n = 0 → g' 0 = (rz_S R n x0.toNatClampNeg).toInt64) ∧ rz_kc v a v' a') R n r b l) := by
  refine ev_ps 4 rfl (ev_call (av := [_, _]) rfl rfl rfl rfl ⟨Nat.le_of_ble_eq_true rfl, rfl⟩ ⟨Nat.le_of_ble_eq_true rfl, Nat.le_of_ble_eq_true rfl⟩ (p_liveX hC _) ?_)
  rintro _ _ ⟨v2, a2, g2, ⟨hor, hk⟩, rfl, h1, h2⟩
  generalize rz_kl x0 n = kk at hor ⊢
  rcases hor with ⟨rfl, rfl⟩ | ⟨rfl, rfl⟩
  · exact ev_ps 4 rfl (ev_ret rfl rfl ⟨_, _, _, ⟨rfl, fun _ => rfl, hk⟩, rfl, h1, h2⟩)
  · exact ⟨13, 3, rfl, ev_ps 1 rfl (ev_ret rfl rfl ⟨_, _, _, ⟨rfl, fun z => absurd z (by decide), hk⟩, rfl, h1, h2⟩)⟩
theorem y_beginOfBlock {p : Nat} (hC : rz_CC v a R n r b l) (hp : p < n) : rz_C xs xl 67 [.ref 1, .int (Int32.ofNat p)] (rz_w v a g) (fun q w' => q = .inl (some (.int (Int32.ofNat (rz_bk R n p)))) ∧ w' = rz_w v a g) := by
  have hn := hC.1
  refine ev_ps 2 rfl ?_
  refine ev_loop (α := Nat) (fun k => k) (fun k => k ≤ p ∧ rz_bk R n p = rz_bk R n k) (fun k => [some (.ref 1), some (.int (Int32.ofNat p)), some (.int (Int32.ofNat k))]) (fun _ => []) (fun _ => rz_w v a g) ?_ p ⟨Nat.le_refl _, rfl⟩
  rintro k ⟨hk, hbk⟩ ih
  refine ev_ps 1 rfl (ev_if (cd := .le) rfl (fun h => ?_) (fun h => ?_))
  · have hk0 : k = 0 := by have := rn_le_t (k := 0) (by omega) (by omega) h; omega
    subst hk0
    exact ev_ps 1 rfl (ev_ret rfl rfl ⟨by rw [hbk]; rfl, rfl⟩)
  · obtain ⟨j, rfl⟩ : ∃ j, k = j + 1 := ⟨k - 1, by have := rn_le_f (k := 0) (by omega) (by omega) h; omega⟩
    refine ev_ps 2 rfl (ev_call (av := [_, _]) rfl rfl rfl rfl ⟨Nat.le_of_ble_eq_true rfl, rfl⟩ ⟨Nat.le_of_ble_eq_true rfl, Nat.le_of_ble_eq_true rfl⟩ (y_beginsBlock hC.2.1 hn (by omega) hC.2.2.1 hC.2.2.2.1) ?_)
    rintro _ _ ⟨⟨u, hu, hui, rfl⟩, rfl⟩
    refine ev_if (cd := .ne) rfl (fun h2 => ?_) (fun h2 => ?_)
    · have hb := hui.mp (hu.resolve_left (rc_ne_t h2))
      exact ev_ps 1 rfl (ev_ret rfl rfl ⟨by rw [hbk, rz_bk, rz_dc_t hb, if_pos rfl], rfl⟩)
    · have hb : ¬ rz_bn R n (j + 1) := fun z => absurd ((rc_ne_f h2).symm.trans (hui.mpr z)) (by decide)
      have h9 := ih j ⟨by omega, by rw [hbk, rz_bk, rz_dc_f hb, if_neg (by decide)]⟩ (by omega)
      rw [show Int32.ofNat j = Int32.ofNat (j + 1) + Int32.ofInt (-1) from by
        rw [← rz_succ j]
        exact (Int32.add_sub_cancel (Int32.ofNat j) 1).symm.trans (Int32.sub_eq_add_neg _ _)] at h9
      exact ev_ps 2 rfl h9
theorem p_blockX (hC : rz_CC v a R n r b l) (x : Int32) : rz_C xs xl 66 [.ref 0, .int x] (rz_w v a g) (rz_PC v a (fun q g' v' a' => ((rz_kb x n = 0 ∧ q = .inl (some (.int (Int32.ofNat (rz_bk R n x.toNatClampNeg))))) ∨ (rz_kb x n = 1 ∧ q = .inr 2)) ∧ rz_kc v a v' a') R n r b l) := by
  have hn := hC.1
  refine ev_ps 3 rfl (ev_call (av := [_, _]) rfl rfl rfl rfl ⟨Nat.le_of_ble_eq_true rfl, rfl⟩ ⟨Nat.le_of_ble_eq_true rfl, Nat.le_of_ble_eq_true rfl⟩ (y_has _) ?_)
  rintro _ _ ⟨⟨u2, hu2, hui2, rfl⟩, rfl⟩
  rw [hC.2.1] at hui2
  refine ev_if (cd := .ne) rfl (fun h2 => ?_) (fun h2 => ?_)
  · have hin := hui2.mp (hu2.resolve_left (rc_ne_t h2))
    have e : rz_kb x n = 0 := by rw [rz_kb, rz_dc_t hin, if_pos rfl]
    obtain ⟨p, hp, rfl⟩ := rz_idx (by omega) hin.1 hin.2
    refine ev_ps 3 rfl (ev_call (av := [_, _]) rfl rfl rfl rfl ⟨Nat.le_of_ble_eq_true rfl, rfl⟩ ⟨Nat.le_of_ble_eq_true rfl, Nat.le_of_ble_eq_true rfl⟩ (y_beginOfBlock hC hp) ?_)
    rintro _ _ ⟨rfl, rfl⟩
    exact ev_ret rfl rfl ⟨v, a, g, ⟨Or.inl ⟨e, by rw [rz_clamp (by omega)]⟩, rz_kc.rf⟩, rfl, rz_cf.rf, hC⟩
  · have hin : ¬ (¬ x < 0 ∧ x < Int32.ofNat n) := fun z => absurd ((rc_ne_f h2).symm.trans (hui2.mpr z)) (by decide)
    exact ev_thr rfl ⟨Nat.le_of_ble_eq_true rfl, Nat.le_of_ble_eq_true rfl⟩ ⟨v, a, g, ⟨Or.inr ⟨by rw [rz_kb, rz_dc_f hin]; rfl, rfl⟩, rz_kc.rf⟩, rfl, rz_cf.rf, hC⟩
theorem l_blockX (hC : rz_CC v a R n r b l) (x0 : Int32) : rz_C xs xl 110 [.ref 0, .int x0, .ref 35] (rz_w v a g) (rz_PC v a (fun q g' v' a' => q = .inl (some (.int (rz_kb x0 n))) ∧ (rz_kb x0 n = 0 → g' 0 = (Int32.ofNat (rz_bk R n x0.toNatClampNeg)).toInt64) ∧ rz_kc v a v' a') R n r b l) := by
  refine ev_ps 4 rfl (ev_call (av := [_, _]) rfl rfl rfl rfl ⟨Nat.le_of_ble_eq_true rfl, rfl⟩ ⟨Nat.le_of_ble_eq_true rfl, Nat.le_of_ble_eq_true rfl⟩ (p_blockX hC _) ?_)
  rintro _ _ ⟨v2, a2, g2, ⟨hor, hk⟩, rfl, h1, h2⟩
  generalize rz_kb x0 n = kk at hor ⊢
  rcases hor with ⟨rfl, rfl⟩ | ⟨rfl, rfl⟩
  · exact ev_ps 4 rfl (ev_ret rfl rfl ⟨_, _, _, ⟨rfl, fun _ => rfl, hk⟩, rfl, h1, h2⟩)
  · exact ⟨13, 3, rfl, ev_ps 1 rfl (ev_ret rfl rfl ⟨_, _, _, ⟨rfl, fun z => absurd z (by decide), hk⟩, rfl, h1, h2⟩)⟩
theorem p_improveX (hC : rz_CC v a R n r b l) : rz_C xs xl 8 [.ref 0] (rz_w v a g) (rz_PC v a (fun q g' v' a' => q = .inl (some (.int (Int32.ofNat n - Int32.ofNat (rz_IP 24 R n 0 r b l).2.1))) ∧ rz_kc v a v' a') (rz_IP 24 R n 0 r b l).1 (rz_IP 24 R n 0 r b l).2.1 (rz_IP 24 R n 0 r b l).2.2.1 (rz_IP 24 R n 0 r b l).2.2.2.1 (rz_IP 24 R n 0 r b l).2.2.2.2) := by
  refine ev_ps 4 rfl (ev_call (av := [_, _]) rfl rfl rfl rfl ⟨Nat.le_of_ble_eq_true rfl, rfl⟩ ⟨Nat.le_of_ble_eq_true rfl, Nat.le_of_ble_eq_true rfl⟩ (y_improveProgram hC) ?_)
  rintro _ _ ⟨v2, a2, rfl, rfl, h1, h2, h3⟩
  exact ev_ret rfl rfl ⟨v2, a2, g, ⟨rfl, h2⟩, rfl, h1, h3⟩
theorem x_counted (hC : rz_CC v a R n r b l) (x : Int32) : rz_C xs xl 49 [.ref 13, .int x] (rz_w v a g) (fun q w' => q = .inl (some (.int (rz_cn x r b l))) ∧ w' = rz_w v a g) := by
  have hr := hC.2.2.2.2.1
  have hb := hC.2.2.2.2.2.1
  have hl := hC.2.2.2.2.2.2.1
  by_cases h0 : x = 0
  · subst h0
    exact ev_ps 4 rfl (ev_ret rfl rfl ⟨by rw [rz_cn, if_pos rfl, ← hr], rfl⟩)
  by_cases h1 : x = 1
  · subst h1
    exact ev_ps 4 rfl (ev_ret rfl rfl ⟨by rw [rz_cn, if_neg (by decide), if_pos rfl, ← hb], rfl⟩)
  by_cases h2 : x = 2
  · subst h2
    exact ev_ps 4 rfl (ev_ret rfl rfl ⟨by rw [rz_cn, if_neg (by decide), if_neg (by decide), if_pos rfl, ← hl], rfl⟩)
  refine ev_ps 1 rfl (ev_tswd rfl ?_ ?_)
  · rcases Int.lt_or_le x.toInt 0 with h | h
    · exact Or.inl h
    · right
      rcases Int.lt_or_le 2 x.toInt with h' | h'
      · exact h'
      · exfalso
        have e : x = Int32.ofNat x.toInt.toNat := by
          apply Int32.toInt_inj.mp
          rw [rz_toInt (by omega)]
          omega
        have hk : x.toInt.toNat = 0 ∨ x.toInt.toNat = 1 ∨ x.toInt.toNat = 2 := by omega
        rcases hk with hk | hk | hk
        · rw [hk] at e; exact h0 e
        · rw [hk] at e; exact h1 e
        · rw [hk] at e; exact h2 e
  · exact ev_ps 1 rfl (ev_ret rfl rfl ⟨by rw [rz_cn, if_neg h0, if_neg h1, if_neg h2]; rfl, rfl⟩)
theorem p_countX (hC : rz_CC v a R n r b l) (x : Int32) : rz_C xs xl 48 [.ref 0, .int x] (rz_w v a g) (rz_PC v a (fun q g' v' a' => q = .inl (some (.int (rz_cn x r b l))) ∧ rz_kc v a v' a') R n r b l) := by
  refine ev_ps 3 rfl (ev_call (av := [_, _]) rfl rfl rfl rfl ⟨Nat.le_of_ble_eq_true rfl, rfl⟩ ⟨Nat.le_of_ble_eq_true rfl, Nat.le_of_ble_eq_true rfl⟩ (x_counted hC _) ?_)
  rintro _ _ ⟨rfl, rfl⟩
  exact ev_ret rfl rfl ⟨_, _, g, ⟨rfl, rz_kc.rf⟩, rfl, rz_cf.rf, hC⟩
theorem p_resultX (hC : rz_CC v a R n r b l) (x : Int32) : rz_C xs xl 5 [.ref 0, .int x] (rz_w v a g) (rz_PC v a (fun q _ _ _ => rz_pi q) R n r b l) := by
  refine ev_ps 3 rfl (ev_call (av := [_, _]) rfl rfl rfl rfl ⟨Nat.le_of_ble_eq_true rfl, rfl⟩ ⟨Nat.le_of_ble_eq_true rfl, Nat.le_of_ble_eq_true rfl⟩ (c_outcome _) ?_)
  rintro _ _ ⟨⟨u, rfl⟩, rfl⟩
  exact ev_ret rfl rfl ⟨_, _, g, ⟨_, rfl⟩, rfl, rz_cf.rf, hC⟩
theorem p_startX (hC : rz_CC v a R n r b l) (x y : Int32) : rz_C xs xl 59 [.ref 0, .int x, .int y] (rz_w v a g) (rz_PC v a (fun q _ _ _ => (q = .inl none ∧ rz_sok x y) ∨ (q = .inr 0 ∧ ¬ rz_sok x y)) R n r b l) := by
  refine ev_ps 2 rfl (ev_ic (cd := .lt) rfl (fun h1 => ?_) (fun h1 => ?_))
  · exact ev_thr rfl ⟨Nat.le_of_ble_eq_true rfl, Nat.le_of_ble_eq_true rfl⟩ ⟨v, a, g, Or.inr ⟨rfl, fun q => q.1 (rc_lt_t h1)⟩, rfl, rz_cf.rf, hC⟩
  · refine ev_ps 2 rfl (ev_ic (cd := .ge) rfl (fun h2 => ?_) (fun h2 => ?_))
    · exact ev_thr rfl ⟨Nat.le_of_ble_eq_true rfl, Nat.le_of_ble_eq_true rfl⟩ ⟨v, a, g, Or.inr ⟨rfl, fun q => Int32.not_le.mpr q.2.1 (rc_ge_t h2)⟩, rfl, rz_cf.rf, hC⟩
    · refine ev_ps 1 rfl (ev_if (cd := .lt) rfl (fun h3 => ?_) (fun h3 => ?_))
      · exact ev_thr rfl ⟨Nat.le_of_ble_eq_true rfl, Nat.le_of_ble_eq_true rfl⟩ ⟨v, a, g, Or.inr ⟨rfl, fun q => q.2.2.1 (rc_lt_t h3)⟩, rfl, rz_cf.rf, hC⟩
      · refine ev_ps 2 rfl (ev_ic (cd := .le) rfl (fun h4 => ?_) (fun h4 => ?_))
        · have hx : x < 12 := Int32.not_le.mp (rc_ge_f h2)
          have hok : rz_sok x y := ⟨rc_lt_f h1, hx, rc_lt_f h3, Int32.not_lt.mpr (rc_le_t h4)⟩
          obtain ⟨k, hk, rfl⟩ := rz_idx (n := 12) (by decide) (fun h => rc_lt_f h1 (Int32.lt_trans h (by decide))) hx
          refine ev_ps 4 rfl (ev_call (av := [_, _, _]) rfl rfl rfl rfl ⟨Nat.le_of_ble_eq_true rfl, rfl⟩ ⟨Nat.le_of_ble_eq_true rfl, Nat.le_of_ble_eq_true rfl⟩ (c_setStart _ hk) ?_)
          rintro _ _ ⟨rfl, r, f, rfl⟩
          exact ev_ret rfl rfl ⟨_, _, g, Or.inl ⟨rfl, hok⟩, rfl, (rz_cf.rf.up (by decide) r).ua (by decide) f, hC⟩
        · exact ev_thr rfl ⟨Nat.le_of_ble_eq_true rfl, Nat.le_of_ble_eq_true rfl⟩ ⟨v, a, g, Or.inr ⟨rfl, fun q => q.2.2.2 (Int32.not_le.mp (rc_le_f h4))⟩, rfl, rz_cf.rf, hC⟩
theorem p_runX (hC : rz_CC v a R n r b l) (x : Int32) : rz_C xs xl 61 [.ref 0, .int x] (rz_w v a g) (rz_PC v a (fun q _ _ _ => rz_pi q ∨ q = .inr 0) R n r b l) := by
  refine ev_ps 1 rfl (ev_if (cd := .lt) rfl (fun h => ?_) (fun h => ?_))
  · exact ev_thr rfl ⟨Nat.le_of_ble_eq_true rfl, Nat.le_of_ble_eq_true rfl⟩ ⟨v, a, g, Or.inr rfl, rfl, rz_cf.rf, hC⟩
  · refine ev_ps 2 rfl (ev_ic (cd := .le) rfl (fun h2 => ?_) (fun h2 => ?_))
    · obtain ⟨hn, hv, -⟩ := id hC
      obtain ⟨l, hl, rfl⟩ := rz_nat (rc_lt_f h)
      have hl5 : l ≤ 500 := rn_le_t (k := 500) hl (by omega) h2
      refine ev_ps 5 rfl (ev_call (av := [_, _, _]) rfl rfl rfl rfl ⟨Nat.le_of_ble_eq_true rfl, rfl⟩ ⟨Nat.le_of_ble_eq_true rfl, Nat.le_of_ble_eq_true rfl⟩ (c_perform hv hn hl5) ?_)
      rintro _ _ ⟨⟨u, rfl⟩, r, p, e, f, he, rfl⟩
      exact ev_ret rfl rfl ⟨_, _, g, Or.inl ⟨_, rfl⟩, rfl, (((rz_cf.rf.up (by decide) r).up (by decide) p).up (by decide) e).ua (by decide) f, hC⟩
    · exact ev_thr rfl ⟨Nat.le_of_ble_eq_true rfl, Nat.le_of_ble_eq_true rfl⟩ ⟨v, a, g, Or.inr rfl, rfl, rz_cf.rf, hC⟩
theorem p_sameX {k : Nat} (hC : rz_CC v a R k r b l) (x n y m z : Int32) : rz_C xs xl 68 [.ref 0, .int x, .int n, .int y, .int m, .int z] (rz_w v a g) (rz_PC v a (fun q _ _ _ => rz_pi q ∨ q = .inr 0 ∨ q = .inr 2 ∨ q = .inr 3) R k r b l) := by
  refine ev_ps 1 rfl (ev_if (cd := .lt) rfl (fun h1 => ?_) (fun h1 => ?_))
  · exact ev_thr rfl ⟨Nat.le_of_ble_eq_true rfl, Nat.le_of_ble_eq_true rfl⟩ ⟨v, a, g, Or.inr (Or.inl rfl), rfl, rz_cf.rf, hC⟩
  refine ev_ps 2 rfl (ev_ic (cd := .gt) rfl (fun h2 => ?_) (fun h2 => ?_))
  · exact ev_thr rfl ⟨Nat.le_of_ble_eq_true rfl, Nat.le_of_ble_eq_true rfl⟩ ⟨v, a, g, Or.inr (Or.inl rfl), rfl, rz_cf.rf, hC⟩
  refine ev_ps 1 rfl (ev_if (cd := .lt) rfl (fun h3 => ?_) (fun h3 => ?_))
  · exact ev_thr rfl ⟨Nat.le_of_ble_eq_true rfl, Nat.le_of_ble_eq_true rfl⟩ ⟨v, a, g, Or.inr (Or.inl rfl), rfl, rz_cf.rf, hC⟩
  refine ev_ps 2 rfl (ev_ic (cd := .le) rfl (fun h4 => ?_) (fun h4 => ?_))
  rotate_left
  · exact ev_thr rfl ⟨Nat.le_of_ble_eq_true rfl, Nat.le_of_ble_eq_true rfl⟩ ⟨v, a, g, Or.inr (Or.inl rfl), rfl, rz_cf.rf, hC⟩
  refine ev_ps 1 rfl (ev_if (cd := .lt) rfl (fun h5 => ?_) (fun h5 => ?_))
  · exact ev_thr rfl ⟨Nat.le_of_ble_eq_true rfl, Nat.le_of_ble_eq_true rfl⟩ ⟨v, a, g, Or.inr (Or.inl rfl), rfl, rz_cf.rf, hC⟩
  refine ev_ps 2 rfl (ev_ic (cd := .le) rfl (fun h6 => ?_) (fun h6 => ?_))
  rotate_left
  · exact ev_thr rfl ⟨Nat.le_of_ble_eq_true rfl, Nat.le_of_ble_eq_true rfl⟩ ⟨v, a, g, Or.inr (Or.inl rfl), rfl, rz_cf.rf, hC⟩
  obtain ⟨hk, hv, -⟩ := id hC
  refine ev_ps 4 rfl (ev_call (av := [_, _, _]) rfl rfl rfl rfl ⟨Nat.le_of_ble_eq_true rfl, rfl⟩ ⟨Nat.le_of_ble_eq_true rfl, Nat.le_of_ble_eq_true rfl⟩ (c_hasAll _ _) ?_)
  rintro _ _ ⟨⟨u1, hu1, hP1, rfl⟩, rfl⟩
  refine ev_if (cd := .eq) rfl (fun h7 => ?_) (fun h7 => ?_)
  · exact ev_thr rfl ⟨Nat.le_of_ble_eq_true rfl, Nat.le_of_ble_eq_true rfl⟩ ⟨v, a, g, Or.inr (Or.inr (Or.inl rfl)), rfl, rz_cf.rf, hC⟩
  have o1 := rz_okr_of hv hk (rc_lt_f h1) (rc_gt_f h2) (hP1 (hu1.resolve_left (rc_eq_f h7)))
  refine ev_ps 4 rfl (ev_call (av := [_, _, _]) rfl rfl rfl rfl ⟨Nat.le_of_ble_eq_true rfl, rfl⟩ ⟨Nat.le_of_ble_eq_true rfl, Nat.le_of_ble_eq_true rfl⟩ (c_hasAll _ _) ?_)
  rintro _ _ ⟨⟨u2, hu2, hP2, rfl⟩, rfl⟩
  refine ev_if (cd := .ne) rfl (fun h8 => ?_) (fun h8 => ?_)
  rotate_left
  · exact ev_thr rfl ⟨Nat.le_of_ble_eq_true rfl, Nat.le_of_ble_eq_true rfl⟩ ⟨v, a, g, Or.inr (Or.inr (Or.inl rfl)), rfl, rz_cf.rf, hC⟩
  have o2 := rz_okr_of hv hk (rc_lt_f h3) (Int32.not_lt.mpr (rc_le_t h4)) (hP2 (hu2.resolve_left (rc_ne_t h8)))
  refine ev_ps 4 rfl (ev_call (av := [_, _, _]) rfl rfl rfl rfl ⟨Nat.le_of_ble_eq_true rfl, rfl⟩ ⟨Nat.le_of_ble_eq_true rfl, Nat.le_of_ble_eq_true rfl⟩ (c_allPlainX o1) ?_)
  rintro _ _ ⟨⟨u3, hu3, -, rfl⟩, rfl⟩
  refine ev_if (cd := .eq) rfl (fun h9 => ?_) (fun h9 => ?_)
  · exact ev_thr rfl ⟨Nat.le_of_ble_eq_true rfl, Nat.le_of_ble_eq_true rfl⟩ ⟨v, a, g, Or.inr (Or.inr (Or.inr rfl)), rfl, rz_cf.rf, hC⟩
  refine ev_ps 4 rfl (ev_call (av := [_, _, _]) rfl rfl rfl rfl ⟨Nat.le_of_ble_eq_true rfl, rfl⟩ ⟨Nat.le_of_ble_eq_true rfl, Nat.le_of_ble_eq_true rfl⟩ (c_allPlainX o2) ?_)
  rintro _ _ ⟨⟨u4, hu4, -, rfl⟩, rfl⟩
  refine ev_if (cd := .ne) rfl (fun h10 => ?_) (fun h10 => ?_)
  rotate_left
  · exact ev_thr rfl ⟨Nat.le_of_ble_eq_true rfl, Nat.le_of_ble_eq_true rfl⟩ ⟨v, a, g, Or.inr (Or.inr (Or.inr rfl)), rfl, rz_cf.rf, hC⟩
  refine ev_ps 9 rfl (ev_call (av := [_, _, _, _, _, _, _]) rfl rfl rfl rfl ⟨Nat.le_of_ble_eq_true rfl, rfl⟩ ⟨Nat.le_of_ble_eq_true rfl, Nat.le_of_ble_eq_true rfl⟩ (c_agreeInProgram _ o1 o2) ?_)
  rintro _ _ ⟨⟨u5, hu5, rfl⟩, k1, k2, d, f1, f2, hk1, hk2, rfl⟩
  exact ev_ret rfl (show (if u5 = 0 ∨ u5 = 1 then some (some (Value.int u5)) else none) = _ from if_pos hu5) ⟨_, _, g, Or.inl ⟨_, rfl⟩, rfl, ((((rz_cf.rf.up (by decide) _).up (by decide) _).up (by decide) d).ua (by decide) f1).ua (by decide) f2, hC⟩
theorem l_runX (hC : rz_CC v a R n r b l) (x0 : Int32) : rz_C xs xl 108 [.ref 0, .int x0, .ref 35] (rz_w v a g) (rz_PC v a (fun q _ _ _ => rz_pi q) R n r b l) := by
  refine ev_ps 4 rfl (ev_call (av := [_, _]) rfl rfl rfl rfl ⟨Nat.le_of_ble_eq_true rfl, rfl⟩ ⟨Nat.le_of_ble_eq_true rfl, Nat.le_of_ble_eq_true rfl⟩ (p_runX hC _) ?_)
  rintro _ _ ⟨v2, a2, g2, ⟨u, rfl⟩ | rfl, rfl, h1, h2⟩
  · exact ev_ps 4 rfl (ev_ret rfl rfl ⟨_, _, _, ⟨_, rfl⟩, rfl, h1, h2⟩)
  · exact ⟨13, 3, rfl, ev_ps 1 rfl (ev_ret rfl rfl ⟨_, _, _, ⟨_, rfl⟩, rfl, h1, h2⟩)⟩
theorem l_sameX (hC : rz_CC v a R n r b l) (x0 x1 x2 x3 x4 : Int32) : rz_C xs xl 111 [.ref 0, .int x0, .int x1, .int x2, .int x3, .int x4, .ref 35] (rz_w v a g) (rz_PC v a (fun q _ _ _ => rz_pi q) R n r b l) := by
  refine ev_ps 8 rfl (ev_call (av := [_, _, _, _, _, _]) rfl rfl rfl rfl ⟨Nat.le_of_ble_eq_true rfl, rfl⟩ ⟨Nat.le_of_ble_eq_true rfl, Nat.le_of_ble_eq_true rfl⟩ (p_sameX hC _ _ _ _ _) ?_)
  rintro _ _ ⟨v2, a2, g2, ⟨u, rfl⟩ | rfl | rfl | rfl, rfl, h1, h2⟩
  · refine ev_if (cd := .eq) rfl (fun h => ?_) (fun h => ?_)
    · exact ev_ps 4 rfl (ev_ret rfl rfl ⟨_, _, _, ⟨_, rfl⟩, rfl, h1, h2⟩)
    · exact ev_ps 5 rfl (ev_ret rfl rfl ⟨_, _, _, ⟨_, rfl⟩, rfl, h1, h2⟩)
  · exact ⟨28, 7, rfl, ev_ps 1 rfl (ev_ret rfl rfl ⟨_, _, _, ⟨_, rfl⟩, rfl, h1, h2⟩)⟩
  · exact ⟨32, 7, rfl, ev_ps 1 rfl (ev_ret rfl rfl ⟨_, _, _, ⟨_, rfl⟩, rfl, h1, h2⟩)⟩
  · exact ⟨36, 7, rfl, ev_ps 1 rfl (ev_ret rfl rfl ⟨_, _, _, ⟨_, rfl⟩, rfl, h1, h2⟩)⟩
theorem l_startX (hC : rz_CC v a R n r b l) (x y : Int32) : rz_C xs xl 107 [.ref 0, .int x, .int y] (rz_w v a g) (rz_PC v a (fun q _ _ _ => rz_pi q) R n r b l) := by
  refine ev_ps 3 rfl (ev_call (av := [_, _, _]) rfl rfl rfl rfl ⟨Nat.le_of_ble_eq_true rfl, rfl⟩ ⟨Nat.le_of_ble_eq_true rfl, Nat.le_of_ble_eq_true rfl⟩ (p_startX hC _ _) ?_)
  rintro _ _ ⟨v2, a2, g2, ⟨rfl, hs⟩ | ⟨rfl, hs⟩, rfl, h1, h2⟩
  · exact ev_ps 2 rfl (ev_ret rfl rfl ⟨_, _, _, ⟨_, rfl⟩, rfl, h1, h2⟩)
  · exact ⟨10, 3, rfl, ev_ps 1 rfl (ev_ret rfl rfl ⟨_, _, _, ⟨_, rfl⟩, rfl, h1, h2⟩)⟩
end RZZ1
/-! the reference's methods, exactly -/
section RZZ2
variable {xs : Nat → Int32} {xl : Nat} {v : Nat → Int32} {a : Nat → Nat → Int32} {g : Nat → Int64} {R : Nat → rz_Q} {n r b l : Nat}
theorem rz_sub1i {x : Int32} (hn : n ≤ 24) : (¬ x < 0 ∧ ¬ Int32.ofNat n - 1 < x) ↔ (¬ x < 0 ∧ x < Int32.ofNat n) := by
  constructor
  · rintro ⟨h0, h1⟩
    obtain ⟨k, hk, rfl⟩ := rz_sub1 hn h0 h1
    exact ⟨h0, (rz_lt_iff (by omega) (by omega)).mpr hk⟩
  · rintro ⟨h0, h1⟩
    obtain ⟨k, hk, rfl⟩ := rz_idx (by omega) h0 h1
    refine ⟨h0, ?_⟩
    rw [show Int32.ofNat n - 1 = Int32.ofNat (n - 1) from rz_sub (n := 1) (by omega), rz_lt_iff (by omega) (by omega)]
    omega
theorem m_addX (hR : rz_RR v a R n r b l) (x0 x1 x2 x3 : Int32) : rz_C xs xl 71 [.ref 25, .int x0, .int x1, .int x2, .int x3] (rz_w v a g) (rz_PM v a g (fun q v' a' => q = .inl (some (.int (if rz_ka x0 x1 x2 x3 n = 0 then Int32.ofNat n else 0))) ∧ v' 20 = rz_ka x0 x1 x2 x3 n ∧ rz_ks v a v' a') (rz_Ra R n (rz_qq x0 x1 x2 x3) (rz_ka x0 x1 x2 x3 n)) (rz_nag n (rz_ka x0 x1 x2 x3 n)) r b l) := by
  have no : ∀ c : Int32, c ≠ 0 → rz_ka x0 x1 x2 x3 n = c → rz_E xs xl 71 30 [some (.ref 25), some (.int x0), some (.int x1), some (.int x2), some (.int x3)] [.int c, .ref 25] (rz_w v a g) 0 0 (rz_PM v a g (fun q v' a' => q = .inl (some (.int (if rz_ka x0 x1 x2 x3 n = 0 then Int32.ofNat n else 0))) ∧ v' 20 = rz_ka x0 x1 x2 x3 n ∧ rz_ks v a v' a') (rz_Ra R n (rz_qq x0 x1 x2 x3) (rz_ka x0 x1 x2 x3 n)) (rz_nag n (rz_ka x0 x1 x2 x3 n)) r b l) := by
    intro c hc e
    rw [e]
    refine ev_ps 1 rfl (ev_w (w2 := rz_w (rz_up v 20 c) a g) rfl ?_)
    refine ev_ps 2 rfl (ev_if (cd := .eq) rfl (fun h => absurd (rc_eq_t h) hc) (fun h => ?_))
    refine ev_ps 1 rfl (ev_ret rfl rfl ⟨_, _, rfl, ⟨by rw [if_neg hc]; rfl, rfl, rz_ks.rf⟩, rz_mf.rf.up (by omega) _, ?_⟩)
    rw [rz_Ra, if_neg hc, rz_nag, if_neg hc]
    exact hR
  refine ev_ps 5 rfl (ev_call (av := [_, _, _, _]) rfl rfl rfl rfl ⟨Nat.le_of_ble_eq_true rfl, rfl⟩ ⟨Nat.le_of_ble_eq_true rfl, Nat.le_of_ble_eq_true rfl⟩ (m_isInstructionX _ _ _ _) ?_)
  rintro _ _ ⟨⟨u1, hu1, hui, rfl⟩, rfl⟩
  refine ev_if (cd := .ne) rfl (fun e1 => ?_) (fun e1 => ?_)
  rotate_left
  · have hno : ¬ rz_okq x0 x1 x2 x3 := fun z => absurd ((rc_ne_f e1).symm.trans (hui.mpr z)) (by decide)
    exact ev_ps 2 rfl (no 1 (by decide) (by rw [rz_ka, rz_dc_f hno]; rfl))
  have hok := hui.mp (hu1.resolve_left (rc_ne_t e1))
  have hn := hR.1
  have hv := hR.2.1
  refine ev_ps 3 rfl (ev_ic (cd := .ne) rfl (fun e2 => ?_) (fun e2 => ?_))
  rotate_left
  · have h24 : ¬ n < 24 := fun z => by
      have e3 := rc_ne_f e2
      rw [hv] at e3
      have := (rz_eq_iff (k := 24) (by omega) (by omega)).mp e3
      omega
    exact ev_ps 2 rfl (no 2 (by decide) (by rw [rz_ka, rz_dc_t hok, if_pos rfl, if_neg h24]))
  have hn24 : n < 24 := by
    rcases Nat.lt_or_ge n 24 with h | h
    · exact h
    · exact absurd (by rw [hv]; exact congrArg Int32.ofNat (by omega : n = 24)) (rc_ne_t e2)
  have e : rz_ka x0 x1 x2 x3 n = 0 := by rw [rz_ka, rz_dc_t hok, if_pos rfl, if_pos hn24]
  rw [e]
  obtain ⟨hlg, q1, q2, q3, q4⟩ := rz_okq_lg hok
  refine ev_ps 2 rfl (ev_w (w2 := rz_w (rz_up v 20 0) a g) rfl ?_)
  refine ev_ps 2 rfl (ev_if (cd := .eq) rfl (fun h => ?_) (fun h => absurd rfl (rc_eq_f h)))
  refine ev_ps 7 rfl ?_
  refine ev_call (av := [.ref 25, .int (Int32.ofNat n), .int x0, .int x1, .int x2, .int x3]) rfl (by rw [← hv]; rfl) rfl rfl ⟨Nat.le_of_ble_eq_true rfl, rfl⟩ ⟨Nat.le_of_ble_eq_true rfl, Nat.le_of_ble_eq_true rfl⟩ (m_put (by omega) _ _ _ _) ?_
  rintro _ _ ⟨rfl, rfl⟩
  refine ev_ps 6 rfl (ev_w (w2 := rz_w (rz_up (rz_up v 20 0) 21 (Int32.ofNat (n + 1))) (rz_pt a n x0 x1 x2 x3) g) (by rw [← rz_succ n, ← hv]; rfl) ?_)
  refine ev_ps 4 rfl (ev_ret rfl rfl ⟨_, _, rfl, ⟨?_, rfl, rz_ks.rf⟩, rz_pt_mf ((rz_mf.rf.up (by omega) _).up (by omega) _), rz_RR.add (v := rz_up v 20 0) hR hn24 hlg ⟨q1, q2, q3, q4⟩⟩)
  have e9 : Int32.ofNat (n + 1) - 1 = Int32.ofNat n := rz_sub (k := n + 1) (n := 1) (by omega)
  rw [if_pos rfl]
  exact congrArg (fun z => (Sum.inl (some (Value.int z)) : rz_R)) e9
theorem m_replaceX (hR : rz_RR v a R n r b l) (x0 x1 x2 x3 x4 : Int32) : rz_C xs xl 75 [.ref 25, .int x0, .int x1, .int x2, .int x3, .int x4] (rz_w v a g) (rz_PM v a g (fun q v' a' => q = .inl none ∧ v' 20 = rz_kr x0 x1 x2 x3 x4 n ∧ rz_ks v a v' a') (rz_Ra R x0.toNatClampNeg (rz_qq x1 x2 x3 x4) (rz_kr x0 x1 x2 x3 x4 n)) n r b l) := by
  have no : ∀ c : Int32, c ≠ 0 → rz_kr x0 x1 x2 x3 x4 n = c → rz_E xs xl 75 36 [some (.ref 25), some (.int x0), some (.int x1), some (.int x2), some (.int x3), some (.int x4)] [.int c, .ref 25] (rz_w v a g) 0 0 (rz_PM v a g (fun q v' a' => q = .inl none ∧ v' 20 = rz_kr x0 x1 x2 x3 x4 n ∧ rz_ks v a v' a') (rz_Ra R x0.toNatClampNeg (rz_qq x1 x2 x3 x4) (rz_kr x0 x1 x2 x3 x4 n)) n r b l) := by
    intro c hc e
    rw [e]
    refine ev_ps 1 rfl (ev_w (w2 := rz_w (rz_up v 20 c) a g) rfl ?_)
    refine ev_ps 2 rfl (ev_if (cd := .ne) rfl (fun h => ?_) (fun h => absurd (rc_ne_f h) hc))
    refine ev_ret rfl rfl ⟨_, _, rfl, ⟨rfl, rfl, rz_ks.rf⟩, rz_mf.rf.up (by omega) _, ?_⟩
    rw [rz_Ra, if_neg hc]
    exact hR
  refine ev_ps 5 rfl (ev_call (av := [_, _, _, _]) rfl rfl rfl rfl ⟨Nat.le_of_ble_eq_true rfl, rfl⟩ ⟨Nat.le_of_ble_eq_true rfl, Nat.le_of_ble_eq_true rfl⟩ (m_isInstructionX _ _ _ _) ?_)
  rintro _ _ ⟨⟨u1, hu1, hui, rfl⟩, rfl⟩
  refine ev_if (cd := .ne) rfl (fun e1 => ?_) (fun e1 => ?_)
  rotate_left
  · have hno : ¬ rz_okq x1 x2 x3 x4 := fun z => absurd ((rc_ne_f e1).symm.trans (hui.mpr z)) (by decide)
    exact ev_ps 2 rfl (no 1 (by decide) (by rw [rz_kr, rz_dc_f hno]; rfl))
  have hok := hui.mp (hu1.resolve_left (rc_ne_t e1))
  have hn := hR.1
  have hv := hR.2.1
  refine ev_ps 6 rfl (ev_call (av := [_, _, _]) rfl rfl rfl rfl ⟨Nat.le_of_ble_eq_true rfl, rfl⟩ ⟨Nat.le_of_ble_eq_true rfl, Nat.le_of_ble_eq_true rfl⟩ (m_in _ _ _) ?_)
  rintro _ _ ⟨⟨u2, h2, rfl⟩, rfl⟩
  have h2' : (u2 = 1 ∧ ¬ x0 < 0 ∧ ¬ v 21 - 1 < x0) ∨ (u2 = 0 ∧ ¬ (¬ x0 < 0 ∧ ¬ v 21 - 1 < x0)) := h2
  rw [hv, rz_sub1i hn] at h2'
  refine ev_if (cd := .ne) rfl (fun e2 => ?_) (fun e2 => ?_)
  rotate_left
  · have hin : ¬ (¬ x0 < 0 ∧ x0 < Int32.ofNat n) := h2'.elim (fun z => absurd ((rc_ne_f e2).symm.trans z.1) (by decide)) (fun z => z.2)
    exact ev_ps 2 rfl (no 2 (by decide) (by rw [rz_kr, rz_dc_t hok, if_pos rfl, rz_dc_f hin, if_neg (by decide)]))
  have hin := (h2'.resolve_right (fun q => rc_ne_t e2 q.1)).2
  have e : rz_kr x0 x1 x2 x3 x4 n = 0 := by rw [rz_kr, rz_dc_t hok, if_pos rfl, rz_dc_t hin, if_pos rfl]
  rw [e]
  obtain ⟨hlg, q1, q2, q3, q4⟩ := rz_okq_lg hok
  obtain ⟨k, hk, rfl⟩ := rz_idx (by omega) hin.1 hin.2
  refine ev_ps 2 rfl (ev_w (w2 := rz_w (rz_up v 20 0) a g) rfl ?_)
  refine ev_ps 2 rfl (ev_if (cd := .ne) rfl (fun h => absurd rfl (rc_ne_t h)) (fun h => ?_))
  refine ev_ps 6 rfl (ev_call (av := [_, _, _, _, _, _]) rfl rfl rfl rfl ⟨Nat.le_of_ble_eq_true rfl, rfl⟩ ⟨Nat.le_of_ble_eq_true rfl, Nat.le_of_ble_eq_true rfl⟩ (m_put (by omega) _ _ _ _) ?_)
  rintro _ _ ⟨rfl, rfl⟩
  refine ev_ret rfl rfl ⟨_, _, rfl, ⟨rfl, rfl, rz_ks.rf⟩, rz_pt_mf (rz_mf.rf.up (by omega) _), ?_⟩
  rw [rz_clamp (k := k) (by omega)]
  exact rz_RR.put (v := rz_up v 20 0) hR hlg ⟨q1, q2, q3, q4⟩
theorem m_clearX (hR : rz_RR v a R n r b l) : rz_C xs xl 76 [.ref 25] (rz_w v a g) (rz_PM v a g (fun q v' a' => q = .inl (some (.int (Int32.ofNat n))) ∧ rz_ks v a v' a') R 0 r b l) := by
  refine ev_ps 3 rfl (ev_w (w2 := rz_w (rz_up v 20 0) a g) rfl ?_)
  refine ev_ps 6 rfl (ev_w (w2 := rz_w (rz_up (rz_up v 20 0) 21 0) a g) rfl ?_)
  refine ev_ps 1 rfl (ev_ret rfl rfl ⟨_, _, rfl, ⟨?_, rz_ks.rf⟩, (rz_mf.rf.up (by omega) _).up (by omega) _, by omega, rfl, fun k hk => absurd hk (Nat.not_lt_zero _), fun k hk => absurd hk (Nat.not_lt_zero _), hR.2.2.2.2⟩)
  exact congrArg (fun z => (Sum.inl (some (Value.int z)) : rz_R)) hR.2.1
theorem m_sizeX (hR : rz_RR v a R n r b l) : rz_C xs xl 77 [.ref 25] (rz_w v a g) (rz_PM v a g (fun q v' a' => q = .inl (some (.int (Int32.ofNat n))) ∧ rz_ks v a v' a') R n r b l) := by
  refine ev_ps 3 rfl (ev_w (w2 := rz_w (rz_up v 20 0) a g) rfl ?_)
  refine ev_ps 2 rfl (ev_ret rfl rfl ⟨_, _, rfl, ⟨?_, rz_ks.rf⟩, rz_mf.rf.up (by omega) _, hR⟩)
  exact congrArg (fun z => (Sum.inl (some (Value.int z)) : rz_R)) hR.2.1
theorem m_countX (hR : rz_RR v a R n r b l) (x : Int32) : rz_C xs xl 103 [.ref 25, .int x] (rz_w v a g) (rz_PM v a g (fun q v' a' => q = .inl (some (.int (rz_cn x r b l))) ∧ rz_ks v a v' a') R n r b l) := by
  obtain ⟨-, -, -, -, -, -, -, hr, hb, hl⟩ := id hR
  refine ev_ps 3 rfl (ev_w (w2 := rz_w (rz_up v 20 0) a g) rfl ?_)
  refine ev_ps 1 rfl (ev_if (cd := .ne) rfl (fun h1 => ?_) (fun h1 => ?_))
  · refine ev_ps 2 rfl (ev_ic (cd := .ne) rfl (fun h2 => ?_) (fun h2 => ?_))
    · refine ev_ps 2 rfl (ev_ic (cd := .ne) rfl (fun h3 => ?_) (fun h3 => ?_))
      · exact ev_ps 1 rfl (ev_ret rfl rfl ⟨_, _, rfl, ⟨by rw [rz_cn, if_neg (show ¬ x = 0 from rc_ne_t h1), if_neg (show ¬ x = 1 from rc_ne_t h2), if_neg (show ¬ x = 2 from rc_ne_t h3)]; rfl, rz_ks.rf⟩, rz_mf.rf.up (by omega) _, hR⟩)
      · exact ev_ps 3 rfl (ev_ret rfl rfl ⟨_, _, rfl, ⟨by rw [rz_cn, if_neg (show ¬ x = 0 from rc_ne_t h1), if_neg (show ¬ x = 1 from rc_ne_t h2), if_pos (show x = 2 from rc_ne_f h3), ← hl]; rfl, rz_ks.rf⟩, rz_mf.rf.up (by omega) _, hR⟩)
    · exact ev_ps 3 rfl (ev_ret rfl rfl ⟨_, _, rfl, ⟨by rw [rz_cn, if_neg (show ¬ x = 0 from rc_ne_t h1), if_pos (show x = 1 from rc_ne_f h2), ← hb]; rfl, rz_ks.rf⟩, rz_mf.rf.up (by omega) _, hR⟩)
  · exact ev_ps 3 rfl (ev_ret rfl rfl ⟨_, _, rfl, ⟨by rw [rz_cn, if_pos (show x = 0 from rc_ne_f h1), ← hr]; rfl, rz_ks.rf⟩, rz_mf.rf.up (by omega) _, hR⟩)
theorem m_instructionX (hR : rz_RR v a R n r b l) (x0 x1 : Int32) : rz_C xs xl 78 [.ref 25, .int x0, .int x1] (rz_w v a g) (rz_PM v a g (fun q v' a' => q = .inl (some (.int (if rz_ki x0 x1 n = 0 then rz_part (R x0.toNatClampNeg) x1 else 0))) ∧ v' 20 = rz_ki x0 x1 n ∧ rz_ks v a v' a') R n r b l) := by
  have no : ∀ c : Int32, c ≠ 0 → rz_ki x0 x1 n = c → rz_E xs xl 78 33 [some (.ref 25), some (.int x0), some (.int x1)] [.int c, .ref 25] (rz_w v a g) 0 0 (rz_PM v a g (fun q v' a' => q = .inl (some (.int (if rz_ki x0 x1 n = 0 then rz_part (R x0.toNatClampNeg) x1 else 0))) ∧ v' 20 = rz_ki x0 x1 n ∧ rz_ks v a v' a') R n r b l) := by
    intro c hc e
    rw [e]
    refine ev_ps 1 rfl (ev_w (w2 := rz_w (rz_up v 20 c) a g) rfl ?_)
    refine ev_ps 2 rfl (ev_if (cd := .eq) rfl (fun h => absurd (rc_eq_t h) hc) (fun h => ?_))
    exact ev_ps 1 rfl (ev_ret rfl rfl ⟨_, _, rfl, ⟨by rw [if_neg hc]; rfl, rfl, rz_ks.rf⟩, rz_mf.rf.up (by omega) _, hR⟩)
  have hn := hR.1
  have hv := hR.2.1
  refine ev_ps 4 rfl (ev_call (av := [_, _, _]) rfl rfl rfl rfl ⟨Nat.le_of_ble_eq_true rfl, rfl⟩ ⟨Nat.le_of_ble_eq_true rfl, Nat.le_of_ble_eq_true rfl⟩ (m_in _ _ _) ?_)
  rintro _ _ ⟨⟨u1, h1, rfl⟩, rfl⟩
  refine ev_if (cd := .ne) rfl (fun e1 => ?_) (fun e1 => ?_)
  rotate_left
  · have hno : ¬ (¬ x1 < 0 ∧ ¬ 3 < x1) := h1.elim (fun z => absurd ((rc_ne_f e1).symm.trans z.1) (by decide)) (fun z => z.2)
    exact ev_ps 2 rfl (no 1 (by decide) (by rw [rz_ki, rz_dc_f hno]; rfl))
  have hw : ¬ x1 < 0 ∧ ¬ 3 < x1 := (h1.resolve_right (fun q => rc_ne_t e1 q.1)).2
  refine ev_ps 6 rfl (ev_call (av := [_, _, _]) rfl rfl rfl rfl ⟨Nat.le_of_ble_eq_true rfl, rfl⟩ ⟨Nat.le_of_ble_eq_true rfl, Nat.le_of_ble_eq_true rfl⟩ (m_in _ _ _) ?_)
  rintro _ _ ⟨⟨u2, h2, rfl⟩, rfl⟩
  have h2' : (u2 = 1 ∧ ¬ x0 < 0 ∧ ¬ v 21 - 1 < x0) ∨ (u2 = 0 ∧ ¬ (¬ x0 < 0 ∧ ¬ v 21 - 1 < x0)) := h2
  rw [hv, rz_sub1i hn] at h2'
  refine ev_if (cd := .ne) rfl (fun e2 => ?_) (fun e2 => ?_)
  rotate_left
  · have hin : ¬ (¬ x0 < 0 ∧ x0 < Int32.ofNat n) := h2'.elim (fun z => absurd ((rc_ne_f e2).symm.trans z.1) (by decide)) (fun z => z.2)
    exact ev_ps 2 rfl (no 2 (by decide) (by rw [rz_ki, rz_dc_t hw, if_pos rfl, rz_dc_f hin, if_neg (by decide)]))
  have hin := (h2'.resolve_right (fun q => rc_ne_t e2 q.1)).2
  have e : rz_ki x0 x1 n = 0 := by rw [rz_ki, rz_dc_t hw, if_pos rfl, rz_dc_t hin, if_pos rfl]
  rw [e]
  obtain ⟨k, hk, rfl⟩ := rz_idx (by omega) hin.1 hin.2
  obtain ⟨q1, q2, q3, q4⟩ := hR.2.2.1 k hk
  have ek := rz_clamp (k := k) (by omega)
  refine ev_ps 2 rfl (ev_w (w2 := rz_w (rz_up v 20 0) a g) rfl ?_)
  refine ev_ps 2 rfl (ev_if (cd := .eq) rfl (fun h => ?_) (fun h => absurd rfl (rc_eq_f h)))
  refine ev_ps 1 rfl (ev_if (cd := .ne) rfl (fun h1 => ?_) (fun h1 => ?_))
  · refine ev_ps 2 rfl (ev_ic (cd := .ne) rfl (fun h2 => ?_) (fun h2 => ?_))
    · refine ev_ps 2 rfl (ev_ic (cd := .ne) rfl (fun h3 => ?_) (fun h3 => ?_))
      · refine ev_ps 3 rfl (ev_ald rfl rfl (rz_in (by omega) (by decide)) ?_)
        rw [ek, q4]
        exact ev_ret rfl rfl ⟨_, _, rfl, ⟨by rw [if_pos rfl, rz_part, if_neg (show ¬ x1 = 0 from rc_ne_t h1), if_neg (show ¬ x1 = 1 from rc_ne_t h2), if_neg (show ¬ x1 = 2 from rc_ne_t h3)], rfl, rz_ks.rf⟩, rz_mf.rf.up (by omega) _, hR⟩
      · refine ev_ps 3 rfl (ev_ald rfl rfl (rz_in (by omega) (by decide)) ?_)
        rw [ek, q3]
        exact ev_ps 1 rfl (ev_ret rfl rfl ⟨_, _, rfl, ⟨by rw [if_pos rfl, rz_part, if_neg (show ¬ x1 = 0 from rc_ne_t h1), if_neg (show ¬ x1 = 1 from rc_ne_t h2), if_pos (show x1 = 2 from rc_ne_f h3)], rfl, rz_ks.rf⟩, rz_mf.rf.up (by omega) _, hR⟩)
    · refine ev_ps 3 rfl (ev_ald rfl rfl (rz_in (by omega) (by decide)) ?_)
      rw [ek, q2]
      exact ev_ps 1 rfl (ev_ret rfl rfl ⟨_, _, rfl, ⟨by rw [if_pos rfl, rz_part, if_neg (show ¬ x1 = 0 from rc_ne_t h1), if_pos (show x1 = 1 from rc_ne_f h2)], rfl, rz_ks.rf⟩, rz_mf.rf.up (by omega) _, hR⟩)
  · refine ev_ps 3 rfl (ev_ald rfl rfl (rz_in (by omega) (by decide)) ?_)
    rw [ek, q1]
    exact ev_ps 1 rfl (ev_ret rfl rfl ⟨_, _, rfl, ⟨by rw [if_pos rfl, rz_part, if_pos (show x1 = 0 from rc_ne_f h1)], rfl, rz_ks.rf⟩, rz_mf.rf.up (by omega) _, hR⟩)
theorem m_liveX (hR : rz_RR v a R n r b l) (x : Int32) : rz_C xs xl 85 [.ref 25, .int x] (rz_w v a g) (rz_PM v a g (fun q v' a' => q = .inl (some (.int (if rz_kl x n = 0 then rz_S R n x.toNatClampNeg else 0))) ∧ v' 20 = rz_kl x n ∧ rz_ks v a v' a') R n r b l) := by
  have hn := hR.1
  have hv := hR.2.1
  refine ev_ps 5 rfl (ev_call (av := [_, _, _]) rfl rfl rfl rfl ⟨Nat.le_of_ble_eq_true rfl, rfl⟩ ⟨Nat.le_of_ble_eq_true rfl, Nat.le_of_ble_eq_true rfl⟩ (m_in _ _ _) ?_)
  rintro _ _ ⟨⟨u2, h2, rfl⟩, rfl⟩
  have h2' : (u2 = 1 ∧ ¬ x < 0 ∧ ¬ v 21 < x) ∨ (u2 = 0 ∧ ¬ (¬ x < 0 ∧ ¬ v 21 < x)) := h2
  rw [hv] at h2'
  refine ev_if (cd := .eq) rfl (fun e2 => ?_) (fun e2 => ?_)
  · have hin : ¬ (¬ x < 0 ∧ ¬ Int32.ofNat n < x) := h2'.elim (fun z => absurd ((rc_eq_t e2).symm.trans z.1) (by decide)) (fun z => z.2)
    have e : rz_kl x n = 1 := by rw [rz_kl, rz_dc_f hin]; rfl
    rw [e]
    refine ev_ps 2 rfl (ev_w (w2 := rz_w (rz_up v 20 1) a g) rfl ?_)
    refine ev_ps 2 rfl (ev_if (cd := .eq) rfl (fun h => absurd (rc_eq_t h) (show ¬ (1 : Int32) = 0 by decide)) (fun h => ?_))
    exact ev_ps 1 rfl (ev_ret rfl rfl ⟨_, _, rfl, ⟨rfl, rfl, rz_ks.rf⟩, rz_mf.rf.up (by omega) _, hR⟩)
  · have hin := (h2'.resolve_right (fun q => rc_eq_f e2 q.1)).2
    have e : rz_kl x n = 0 := by rw [rz_kl, rz_dc_t hin, if_pos rfl]
    rw [e]
    obtain ⟨k, hk, rfl⟩ := rz_le_nat (by omega) hin.1 hin.2
    refine ev_ps 3 rfl (ev_w (w2 := rz_w (rz_up v 20 0) a g) rfl ?_)
    refine ev_ps 2 rfl (ev_if (cd := .eq) rfl (fun h => ?_) (fun h => absurd rfl (rc_eq_f h)))
    refine ev_ps 1 rfl (ev_call (av := [_]) rfl rfl rfl rfl ⟨Nat.le_of_ble_eq_true rfl, rfl⟩ ⟨Nat.le_of_ble_eq_true rfl, Nat.le_of_ble_eq_true rfl⟩ (m_findLivesX (v := rz_up v 20 0) hn hv hR.2.2.1 hR.2.2.2.1) ?_)
    rintro _ _ ⟨rfl, f, rfl, hf⟩
    refine ev_ps 2 rfl (ev_call (av := [_, _]) rfl rfl rfl rfl ⟨Nat.le_of_ble_eq_true rfl, rfl⟩ ⟨Nat.le_of_ble_eq_true rfl, Nat.le_of_ble_eq_true rfl⟩ (m_livesAt (v := rz_up v 20 0) hv hn (by omega)) ?_)
    rintro _ _ ⟨rfl, rfl⟩
    rw [show rz_at n (rz_ua a 26 f 26) k = rz_S R n k from rz_at_cg hf]
    exact ev_ret rfl rfl ⟨_, _, rfl, ⟨by rw [if_pos rfl, rz_clamp (by omega)], rfl, rz_ks.rf⟩, (rz_mf.rf.up (by omega) _).ua (by omega) _, hR.ua (by omega) f⟩
theorem m_blockX (hR : rz_RR v a R n r b l) (x : Int32) : rz_C xs xl 90 [.ref 25, .int x] (rz_w v a g) (rz_PM v a g (fun q v' a' => q = .inl (some (.int (if rz_kb x n = 0 then Int32.ofNat (rz_bk R n x.toNatClampNeg) else 0))) ∧ v' 20 = rz_kb x n ∧ rz_ks v a v' a') R n r b l) := by
  have hn := hR.1
  have hv := hR.2.1
  refine ev_ps 7 rfl (ev_call (av := [_, _, _]) rfl rfl rfl rfl ⟨Nat.le_of_ble_eq_true rfl, rfl⟩ ⟨Nat.le_of_ble_eq_true rfl, Nat.le_of_ble_eq_true rfl⟩ (m_in _ _ _) ?_)
  rintro _ _ ⟨⟨u2, h2, rfl⟩, rfl⟩
  have h2' : (u2 = 1 ∧ ¬ x < 0 ∧ ¬ v 21 - 1 < x) ∨ (u2 = 0 ∧ ¬ (¬ x < 0 ∧ ¬ v 21 - 1 < x)) := h2
  rw [hv, rz_sub1i hn] at h2'
  refine ev_if (cd := .eq) rfl (fun e2 => ?_) (fun e2 => ?_)
  · have hin : ¬ (¬ x < 0 ∧ x < Int32.ofNat n) := h2'.elim (fun z => absurd ((rc_eq_t e2).symm.trans z.1) (by decide)) (fun z => z.2)
    have e : rz_kb x n = 1 := by rw [rz_kb, rz_dc_f hin]; rfl
    rw [e]
    refine ev_ps 2 rfl (ev_w (w2 := rz_w (rz_up v 20 1) a g) rfl ?_)
    refine ev_ps 2 rfl (ev_if (cd := .eq) rfl (fun h => absurd (rc_eq_t h) (show ¬ (1 : Int32) = 0 by decide)) (fun h => ?_))
    exact ev_ps 1 rfl (ev_ret rfl rfl ⟨_, _, rfl, ⟨rfl, rfl, rz_ks.rf⟩, rz_mf.rf.up (by omega) _, hR⟩)
  · have hin := (h2'.resolve_right (fun q => rc_eq_f e2 q.1)).2
    have e : rz_kb x n = 0 := by rw [rz_kb, rz_dc_t hin, if_pos rfl]
    rw [e]
    obtain ⟨k, hk, rfl⟩ := rz_idx (by omega) hin.1 hin.2
    rw [rz_clamp (k := k) (by omega)]
    refine ev_ps 3 rfl (ev_w (w2 := rz_w (rz_up v 20 0) a g) rfl ?_)
    refine ev_ps 2 rfl (ev_if (cd := .eq) rfl (fun h => ?_) (fun h => absurd rfl (rc_eq_f h)))
    refine ev_ps 2 rfl ?_
    refine ev_loop (α := Nat) (fun r => r) (fun j => j ≤ k ∧ rz_bk R n k = rz_bk R n j) (fun r => [some (.ref 25), some (.int (Int32.ofNat k)), some (.int (Int32.ofNat r))]) (fun _ => []) (fun _ => rz_w (rz_up v 20 0) a g) ?_ k ⟨Nat.le_refl _, rfl⟩
    rintro j ⟨hj, hbk⟩ ih
    refine ev_ps 2 rfl (ev_call (av := [_, _]) rfl rfl rfl rfl ⟨Nat.le_of_ble_eq_true rfl, rfl⟩ ⟨Nat.le_of_ble_eq_true rfl, Nat.le_of_ble_eq_true rfl⟩ (m_isBeginX (v := rz_up v 20 0) hv hn (by omega) hR.2.2.1 hR.2.2.2.1) ?_)
    rintro _ _ ⟨⟨u3, hu3, hui3, rfl⟩, rfl⟩
    refine ev_if (cd := .ne) rfl (fun h => ?_) (fun h => ?_)
    · have hb := hui3.mp (hu3.resolve_left (rc_ne_t h))
      have e9 : rz_bk R n j = j := by
        cases j with
        | zero => rfl
        | succ j => rw [rz_bk, rz_dc_t hb, if_pos rfl]
      exact ev_ps 1 rfl (ev_ret rfl rfl ⟨_, _, rfl, ⟨by rw [if_pos rfl, hbk, e9], rfl, rz_ks.rf⟩, rz_mf.rf.up (by omega) _, hR⟩)
    · have hb : ¬ rz_bn R n j := fun z => absurd ((rc_ne_f h).symm.trans (hui3.mpr z)) (by decide)
      obtain ⟨i, rfl⟩ : ∃ i, j = i + 1 := ⟨j - 1, by
        have : j ≠ 0 := fun z => hb (Or.inl z)
        omega⟩
      have h9 := ih i ⟨by omega, by rw [hbk, rz_bk, rz_dc_f hb, if_neg (by decide)]⟩ (by omega)
      rw [show Int32.ofNat i = Int32.ofNat (i + 1) + Int32.ofInt (-1) from by
        rw [← rz_succ i]
        exact (Int32.add_sub_cancel (Int32.ofNat i) 1).symm.trans (Int32.sub_eq_add_neg _ _)] at h9
      exact ev_ps 2 rfl h9
theorem m_improveY (hR : rz_RR v a R n r b l) : rz_C xs xl 97 [.ref 25] (rz_w v a g) (rz_PM v a g (fun q v' a' => q = .inl (some (.int (Int32.ofNat n - Int32.ofNat (rz_IP 24 R n 0 r b l).2.1))) ∧ rz_ks v a v' a') (rz_IP 24 R n 0 r b l).1 (rz_IP 24 R n 0 r b l).2.1 (rz_IP 24 R n 0 r b l).2.2.1 (rz_IP 24 R n 0 r b l).2.2.2.1 (rz_IP 24 R n 0 r b l).2.2.2.2) :=
  ev_mono (fun q w' ⟨v', a', h1, h2, h3, h4, h5⟩ => ⟨v', a', h2, ⟨h1, h4⟩, h3, h5⟩) (m_improveX hR)
theorem m_resultX (hR : rz_RR v a R n r b l) (x : Int32) : rz_C xs xl 84 [.ref 25, .int x] (rz_w v a g) (rz_PM v a g (fun q _ _ => rz_pi q) R n r b l) := by
  refine ev_ps 3 rfl (ev_w (w2 := rz_w (rz_up v 20 0) a g) rfl ?_)
  refine ev_ps 2 rfl (ev_ic (cd := .ne) rfl (fun h => ?_) (fun h => ?_))
  · refine ev_ps 2 rfl (ev_ic (cd := .ne) rfl (fun h => ?_) (fun h => ?_))
    · refine ev_ps 3 rfl (ev_call (av := [_, _, _]) rfl rfl rfl rfl ⟨Nat.le_of_ble_eq_true rfl, rfl⟩ ⟨Nat.le_of_ble_eq_true rfl, Nat.le_of_ble_eq_true rfl⟩ (m_in _ _ _) ?_)
      rintro _ _ ⟨⟨u1, h1, rfl⟩, rfl⟩
      refine ev_if (cd := .eq) rfl (fun e => ?_) (fun e1 => ?_)
      · exact ev_ps 1 rfl (ev_ret rfl rfl ⟨_, _, rfl, ⟨_, rfl⟩, rz_mf.rf.up (by omega) _, hR⟩)
      · obtain ⟨-, x0, x1⟩ := h1.resolve_right (fun q => rc_eq_f e1 q.1)
        obtain ⟨k, hk, rfl⟩ := rz_le_nat (b := 11) (by decide) x0 x1
        refine ev_ps 3 rfl (ev_ald rfl rfl (rz_in (by omega) (by decide)) ?_)
        exact ev_ps 1 rfl (ev_ret rfl rfl ⟨_, _, rfl, ⟨_, rfl⟩, rz_mf.rf.up (by omega) _, hR⟩)
    · exact ev_ps 3 rfl (ev_ret rfl rfl ⟨_, _, rfl, ⟨_, rfl⟩, rz_mf.rf.up (by omega) _, hR⟩)
  · exact ev_ps 3 rfl (ev_ret rfl rfl ⟨_, _, rfl, ⟨_, rfl⟩, rz_mf.rf.up (by omega) _, hR⟩)
theorem m_sameX {k : Nat} (hR : rz_RR v a R k r b l) (x n y m z : Int32) : rz_C xs xl 92 [.ref 25, .int x, .int n, .int y, .int m, .int z] (rz_w v a g) (rz_PM v a g (fun q _ _ => rz_pi q) R k r b l) := by
  have no : ∀ c : Int32, c ≠ 0 → rz_E xs xl 92 82 [some (.ref 25), some (.int x), some (.int n), some (.int y), some (.int m), some (.int z)] [.int c, .ref 25] (rz_w v a g) 0 0 (rz_PM v a g (fun q _ _ => rz_pi q) R k r b l) := by
    intro c hc
    refine ev_ps 1 rfl (ev_w (w2 := rz_w (rz_up v 20 c) a g) rfl ?_)
    refine ev_ps 2 rfl (ev_if (cd := .ne) rfl (fun h => ?_) (fun h => absurd (rc_ne_f h) hc))
    exact ev_ps 1 rfl (ev_ret rfl rfl ⟨_, _, rfl, ⟨_, rfl⟩, rz_mf.rf.up (by omega) _, hR⟩)
  have no1 : rz_E xs xl 92 31 [some (.ref 25), some (.int x), some (.int n), some (.int y), some (.int m), some (.int z)] [.ref 25] (rz_w v a g) 0 0 (rz_PM v a g (fun q _ _ => rz_pi q) R k r b l) := ev_ps 2 rfl (no 1 (by decide))
  have no2 : rz_E xs xl 92 54 [some (.ref 25), some (.int x), some (.int n), some (.int y), some (.int m), some (.int z)] [.ref 25] (rz_w v a g) 0 0 (rz_PM v a g (fun q _ _ => rz_pi q) R k r b l) := ev_ps 2 rfl (no 2 (by decide))
  have no3 : rz_E xs xl 92 77 [some (.ref 25), some (.int x), some (.int n), some (.int y), some (.int m), some (.int z)] [.ref 25] (rz_w v a g) 0 0 (rz_PM v a g (fun q _ _ => rz_pi q) R k r b l) := ev_ps 2 rfl (no 3 (by decide))
  have hk := hR.1
  have hv := hR.2.1
  have hrows : ∀ j, j < k → rz_li a j := fun j hj => rz_pr_li hR.2.2.1 hR.2.2.2.1 hj
  refine ev_ps 4 rfl (ev_call (av := [_, _, _]) rfl rfl rfl rfl ⟨Nat.le_of_ble_eq_true rfl, rfl⟩ ⟨Nat.le_of_ble_eq_true rfl, Nat.le_of_ble_eq_true rfl⟩ (m_in _ _ _) ?_)
  rintro _ _ ⟨⟨u1, h1, rfl⟩, rfl⟩
  refine ev_if (cd := .eq) rfl (fun e => no1) (fun e1 => ?_)
  obtain ⟨-, n0, n1⟩ := h1.resolve_right (fun q => rc_eq_f e1 q.1)
  refine ev_ps 3 rfl (ev_call (av := [_, _, _]) rfl rfl rfl rfl ⟨Nat.le_of_ble_eq_true rfl, rfl⟩ ⟨Nat.le_of_ble_eq_true rfl, Nat.le_of_ble_eq_true rfl⟩ (m_in _ _ _) ?_)
  rintro _ _ ⟨⟨u2, h2, rfl⟩, rfl⟩
  refine ev_if (cd := .eq) rfl (fun e => no1) (fun e2 => ?_)
  obtain ⟨-, m0, m1⟩ := h2.resolve_right (fun q => rc_eq_f e2 q.1)
  refine ev_ps 3 rfl (ev_call (av := [_, _, _]) rfl rfl rfl rfl ⟨Nat.le_of_ble_eq_true rfl, rfl⟩ ⟨Nat.le_of_ble_eq_true rfl, Nat.le_of_ble_eq_true rfl⟩ (m_in _ _ _) ?_)
  rintro _ _ ⟨⟨u3, h3, rfl⟩, rfl⟩
  refine ev_if (cd := .ne) rfl (fun e3 => ?_) (fun e => no1)
  obtain ⟨n', hn', rfl⟩ := rz_le_nat (b := 3) (by decide) n0 n1
  obtain ⟨m', hm', rfl⟩ := rz_le_nat (b := 3) (by decide) m0 m1
  refine ev_ps 3 rfl (ev_call (av := [_, _, _]) rfl rfl rfl rfl ⟨Nat.le_of_ble_eq_true rfl, rfl⟩ ⟨Nat.le_of_ble_eq_true rfl, Nat.le_of_ble_eq_true rfl⟩ (m_isThere _ hn' hk hv) ?_)
  rintro _ _ ⟨⟨u4, hu4, hP4, rfl⟩, rfl⟩
  refine ev_if (cd := .eq) rfl (fun e => no2) (fun e4 => ?_)
  obtain ⟨p, rfl, hpn⟩ := hP4 (hu4.resolve_left (rc_eq_f e4))
  refine ev_ps 3 rfl (ev_call (av := [_, _, _]) rfl rfl rfl rfl ⟨Nat.le_of_ble_eq_true rfl, rfl⟩ ⟨Nat.le_of_ble_eq_true rfl, Nat.le_of_ble_eq_true rfl⟩ (m_isThere _ hm' hk hv) ?_)
  rintro _ _ ⟨⟨u5, hu5, hP5, rfl⟩, rfl⟩
  refine ev_if (cd := .ne) rfl (fun e5 => ?_) (fun e => no2)
  obtain ⟨q, rfl, hqm⟩ := hP5 (hu5.resolve_left (rc_ne_t e5))
  refine ev_ps 3 rfl (ev_call (av := [_, _, _]) rfl rfl rfl rfl ⟨Nat.le_of_ble_eq_true rfl, rfl⟩ ⟨Nat.le_of_ble_eq_true rfl, Nat.le_of_ble_eq_true rfl⟩ (m_isPlain (by omega)) ?_)
  rintro _ _ ⟨⟨u6, hu6, -, rfl⟩, rfl⟩
  refine ev_if (cd := .eq) rfl (fun e => no3) (fun e6 => ?_)
  refine ev_ps 3 rfl (ev_call (av := [_, _, _]) rfl rfl rfl rfl ⟨Nat.le_of_ble_eq_true rfl, rfl⟩ ⟨Nat.le_of_ble_eq_true rfl, Nat.le_of_ble_eq_true rfl⟩ (m_isPlain (by omega)) ?_)
  rintro _ _ ⟨⟨u7, hu7, -, rfl⟩, rfl⟩
  refine ev_if (cd := .ne) rfl (fun e7 => ?_) (fun e => no3)
  refine ev_ps 2 rfl (ev_w (w2 := rz_w (rz_up v 20 0) a g) rfl ?_)
  refine ev_ps 2 rfl (ev_if (cd := .ne) rfl (fun h => absurd rfl (rc_ne_t h)) (fun h => ?_))
  refine ev_ps 6 rfl (ev_call (av := [_, _, _, _, _, _]) rfl rfl rfl rfl ⟨Nat.le_of_ble_eq_true rfl, rfl⟩ ⟨Nat.le_of_ble_eq_true rfl, Nat.le_of_ble_eq_true rfl⟩ (m_agree _ (by omega) (by omega) (fun j h1 h2 => hrows j (by omega)) (fun j h1 h2 => hrows j (by omega))) ?_)
  rintro _ _ ⟨⟨u8, hu8, rfl⟩, f1, f2, rfl⟩
  refine ev_if (cd := .eq) rfl (fun h => ?_) (fun h => ?_)
  · exact ev_ps 1 rfl (ev_ret rfl rfl ⟨_, _, rfl, ⟨_, rfl⟩, ((rz_mf.rf.up (by omega) _).ua (by omega) _).ua (by omega) _, (hR.ua (by omega) f1).ua (by omega) f2⟩)
  · exact ev_ps 2 rfl (ev_ret rfl rfl ⟨_, _, rfl, ⟨_, rfl⟩, ((rz_mf.rf.up (by omega) _).ua (by omega) _).ua (by omega) _, (hR.ua (by omega) f1).ua (by omega) f2⟩)
theorem m_runX {l0 : Nat} (hR : rz_RR v a R n r b l0) (x : Int32) : rz_C xs xl 80 [.ref 25, .int x] (rz_w v a g) (rz_PM v a g (fun q _ _ => rz_pi q) R n r b l0) := by
  have hmi := hR.mi
  have hn := hR.1
  have hv := hR.2.1
  have hrows : ∀ j, j < n → rz_li a j := fun j hj => rz_pr_li hR.2.2.1 hR.2.2.2.1 hj
  refine ev_ps 4 rfl (ev_call (av := [_, _, _]) rfl rfl rfl rfl ⟨Nat.le_of_ble_eq_true rfl, rfl⟩ ⟨Nat.le_of_ble_eq_true rfl, Nat.le_of_ble_eq_true rfl⟩ (m_in _ _ _) ?_)
  rintro _ _ ⟨⟨u2, h2, rfl⟩, rfl⟩
  refine ev_if (cd := .eq) rfl (fun e2 => ?_) (fun e2 => ?_)
  · refine ev_ps 2 rfl (ev_w (w2 := rz_w (rz_up v 20 1) a g) rfl ?_)
    refine ev_ps 2 rfl (ev_if (cd := .eq) rfl (fun h => absurd (rc_eq_t h) (show ¬ (1 : Int32) = 0 by decide)) (fun h => ?_))
    exact ev_ps 1 rfl (ev_ret rfl rfl ⟨_, _, rfl, ⟨_, rfl⟩, rz_mf.rf.up (by omega) _, hR⟩)
  · obtain ⟨-, y0, y1⟩ := h2.resolve_right (fun q => rc_eq_f e2 q.1)
    obtain ⟨l, hl, rfl⟩ := rz_le_nat (b := 500) (by decide) y0 y1
    refine ev_ps 3 rfl (ev_w (w2 := rz_w (rz_up v 20 0) a g) rfl ?_)
    refine ev_ps 2 rfl (ev_if (cd := .eq) rfl (fun h => ?_) (fun h => absurd rfl (rc_eq_f h)))
    have fin : ∀ (e : Int32) (j : Int32) (f f2 : Nat → Int32), rz_sm f2 12 → rz_mf v a (rz_up (rz_up (rz_up v 20 0) 22 e) 23 j) (rz_ua (rz_ua a 27 f) 25 f2) ∧ rz_RR (rz_up (rz_up (rz_up v 20 0) 22 e) 23 j) (rz_ua (rz_ua a 27 f) 25 f2) R n r b l0 := fun e j f f2 hf2 =>
      ⟨((((rz_mf.rf.up (by omega) _).up (by omega) _).up (by omega) _).ua (by omega) _).ua (by omega) _, hR.1, hR.2.1, hR.2.2.1, hR.2.2.2.1, hR.2.2.2.2.1, hR.2.2.2.2.2.1, hf2, hR.2.2.2.2.2.2.2⟩
    have loop : ∀ (e : Int32) (t3 : Option Value) (j : Nat) (f f2 : Nat → Int32), rz_sm f2 12 → (e = 0 → j < n) → rz_E xs xl 80 82 [some (.ref 25), some (.int (Int32.ofNat l)), some (.int (Int32.ofNat 0)), t3] [] (rz_w (rz_up (rz_up (rz_up v 20 0) 22 e) 23 (Int32.ofNat j)) (rz_ua (rz_ua a 27 f) 25 f2) g) 0 0 (rz_PM v a g (fun q _ _ => rz_pi q) R n r b l0) := by
      intro e t3 j f f2 hf2 he
      refine ev_loop (α := Nat × Int32 × Option Value × Nat × (Nat → Int32) × (Nat → Int32)) (fun r => l - r.1) (fun r => r.1 ≤ l ∧ rz_sm r.2.2.2.2.2 12 ∧ (r.2.1 = 0 → r.2.2.2.1 < n)) (fun r => [some (.ref 25), some (.int (Int32.ofNat l)), some (.int (Int32.ofNat r.1)), r.2.2.1]) (fun _ => []) (fun r => rz_w (rz_up (rz_up (rz_up v 20 0) 22 r.2.1) 23 (Int32.ofNat r.2.2.2.1)) (rz_ua (rz_ua a 27 r.2.2.2.2.1) 25 r.2.2.2.2.2) g) ?_ (0, e, t3, j, f, f2) ⟨Nat.zero_le _, hf2, he⟩
      rintro ⟨k, e, t3, j, f, f2⟩ ⟨hk, hf2, he⟩ ih
      dsimp only at hk hf2 he ih ⊢
      obtain ⟨m1, m2⟩ := fin e (Int32.ofNat j) f f2 hf2
      refine ev_ps 2 rfl (ev_if (cd := .ne) rfl (fun h => ?_) (fun h => ?_))
      · exact ev_ps 1 rfl (ev_ret rfl rfl ⟨_, _, rfl, ⟨_, rfl⟩, m1, m2⟩)
      · refine ev_ps 2 rfl (ev_ic (cd := .ge) rfl (fun h1 => ?_) (fun h1 => ?_))
        · exact ev_ps 1 rfl (ev_ret rfl rfl ⟨_, _, rfl, ⟨_, rfl⟩, m1, m2⟩)
        · have hk' : k < l := rn_ge_f (by omega) (by omega) h1
          have hj : j < n := he (rc_ne_f h)
          refine ev_ps 5 rfl (ev_call (av := [_, _]) rfl rfl rfl rfl ⟨Nat.le_of_ble_eq_true rfl, rfl⟩ ⟨Nat.le_of_ble_eq_true rfl, Nat.le_of_ble_eq_true rfl⟩ (m_execute m2.mi hv hn hj (hrows j hj)) ?_)
          rintro _ _ ⟨rfl, j2, f3, f4, hj2, hf4, rfl⟩
          refine ev_w (w2 := rz_w (rz_up (rz_up (rz_up v 20 0) 22 e) 23 (Int32.ofNat j2)) (rz_ua (rz_ua a 27 f3) 25 f4) g) rfl ?_
          have next : ∀ e2 : Int32, (e2 = 0 → j2 < n) → rz_E xs xl 80 135 [some (.ref 25), some (.int (Int32.ofNat l)), some (.int (Int32.ofNat k + Int32.ofInt 1)), some (.int (Int32.ofNat j))] [.int e2, .ref 25] (rz_w (rz_up (rz_up (rz_up v 20 0) 22 e) 23 (Int32.ofNat j2)) (rz_ua (rz_ua a 27 f3) 25 f4) g) 0 0 (rz_PM v a g (fun q _ _ => rz_pi q) R n r b l0) := by
            intro e3 he3
            have h9 := ih (k + 1, e3, some (.int (Int32.ofNat j)), j2, f3, f4) ⟨by show k + 1 ≤ l; omega, hf4, he3⟩ (by show l - (k + 1) < l - k; omega)
            dsimp only at h9
            rw [← rz_succ k] at h9
            exact ev_ps 1 rfl (ev_w (w2 := rz_w (rz_up (rz_up (rz_up v 20 0) 22 e3) 23 (Int32.ofNat j2)) (rz_ua (rz_ua a 27 f3) 25 f4) g) rfl (ev_ps 1 rfl h9))
          refine ev_ps 5 rfl (ev_ald rfl rfl (rz_in (by omega) (by decide)) ?_)
          refine ev_ps 1 rfl (ev_ic (cd := .eq) rfl (fun h5 => ?_) (fun h5 => ?_))
          · exact ev_ps 2 rfl (next 1 (fun q => absurd q (by decide)))
          · refine ev_ps 4 rfl (ev_ic (cd := .lt) rfl (fun h6 => ?_) (fun h6 => ?_))
            · have h6' : rz_cmp .lt (Int32.ofNat j2) (v 21) = true := h6
              rw [hv] at h6'
              exact ev_ps 1 rfl (next 0 (fun _ => rn_lt_t (by omega) (by omega) h6'))
            · exact ev_ps 2 rfl (next 1 (fun q => absurd q (by decide)))
    refine ev_ps 2 rfl (ev_w (w2 := rz_w (rz_up v 20 0) (rz_ua a 25 (a 25)) g) rfl ?_)
    refine ev_loop (α := Nat × (Nat → Int32)) (fun r => 12 - r.1) (fun r => r.1 ≤ 12 ∧ rz_sm r.2 12) (fun r => [some (.ref 25), some (.int (Int32.ofNat l)), some (.int (Int32.ofNat r.1)), none]) (fun _ => []) (fun r => rz_w (rz_up v 20 0) (rz_ua a 25 r.2) g) ?_ (0, a 25) ⟨Nat.zero_le _, hmi.2.2.2⟩
    rintro ⟨k, f2⟩ ⟨hk, hf2⟩ ih
    dsimp only at hk hf2 ih ⊢
    refine ev_ps 2 rfl (ev_ic (cd := .ge) rfl (fun h => ?_) (fun h => ?_))
    · refine ev_ps 3 rfl (ev_w (w2 := rz_w (rz_up (rz_up (rz_up v 20 0) 22 (v 22)) 23 0) (rz_ua (rz_ua a 27 (a 27)) 25 f2) g) rfl ?_)
      have go : ∀ e2 : Int32, (e2 = 0 → 0 < n) → rz_E xs xl 80 77 [some (.ref 25), some (.int (Int32.ofNat l)), some (.int (Int32.ofNat k)), none] [.int e2, .ref 25] (rz_w (rz_up (rz_up (rz_up v 20 0) 22 (v 22)) 23 0) (rz_ua (rz_ua a 27 (a 27)) 25 f2) g) 0 0 (rz_PM v a g (fun q _ _ => rz_pi q) R n r b l0) := by
        intro e3 he3
        exact ev_ps 1 rfl (ev_w (w2 := rz_w (rz_up (rz_up (rz_up v 20 0) 22 e3) 23 (Int32.ofNat 0)) (rz_ua (rz_ua a 27 (a 27)) 25 f2) g) rfl (ev_ps 2 rfl (loop e3 _ 0 _ f2 hf2 he3)))
      refine ev_ps 5 rfl (ev_ic (cd := .lt) rfl (fun h6 => ?_) (fun h6 => ?_))
      · have h6' : rz_cmp .lt (Int32.ofNat 0) (v 21) = true := h6
        rw [hv] at h6'
        exact ev_ps 1 rfl (go 0 (fun _ => rn_lt_t (by omega) (by omega) h6'))
      · exact ev_ps 2 rfl (go 1 (fun q => absurd q (by decide)))
    · have hk' : k < 12 := rn_ge_f (k := 12) (by omega) (by omega) h
      obtain ⟨y, hy, ey⟩ := hmi.2.2.1 k hk'
      have ei := rz_clamp (k := k) (by omega)
      refine ev_ps 6 rfl (ev_ald rfl rfl (rz_in hk' (by decide)) ?_)
      refine ev_ast rfl rfl (rz_in hk' (by decide)) ?_
      have h9 := ih (k + 1, upd f2 k (Int32.ofNat y)) ⟨by show k + 1 ≤ 12; omega, rz_sm_up hf2 hy⟩ (by show 12 - (k + 1) < 12 - k; omega)
      dsimp only at h9
      rw [← rz_succ k] at h9
      refine ev_w (w2 := rz_w (rz_up v 20 0) (rz_ua a 25 (upd f2 k (Int32.ofNat y))) g) ?_ (ev_ps 2 rfl h9)
      rw [ei, ← ey]; rfl
theorem m_startX (hR : rz_RR v a R n r b l) (x y : Int32) : rz_C xs xl 79 [.ref 25, .int x, .int y] (rz_w v a g) (rz_PM v a g (fun q v' a' => q = .inl none ∧ ((v' 20 = 0 ∧ rz_sok x y) ∨ (v' 20 = 1 ∧ ¬ rz_sok x y))) R n r b l) := by
  have no : ¬ rz_sok x y → rz_E xs xl 79 25 [some (.ref 25), some (.int x), some (.int y)] [.ref 25] (rz_w v a g) 0 0 (rz_PM v a g (fun q v' a' => q = .inl none ∧ ((v' 20 = 0 ∧ rz_sok x y) ∨ (v' 20 = 1 ∧ ¬ rz_sok x y))) R n r b l) := by
    intro hno
    refine ev_ps 2 rfl (ev_w (w2 := rz_w (rz_up v 20 1) a g) rfl ?_)
    refine ev_ps 2 rfl (ev_if (cd := .ne) rfl (fun h => ?_) (fun h => absurd (rc_ne_f h) (show ¬ (1 : Int32) = 0 by decide)))
    exact ev_ret rfl rfl ⟨_, _, rfl, ⟨rfl, Or.inr ⟨rfl, hno⟩⟩, rz_mf.rf.up (by omega) _, hR⟩
  refine ev_ps 4 rfl (ev_call (av := [_, _, _]) rfl rfl rfl rfl ⟨Nat.le_of_ble_eq_true rfl, rfl⟩ ⟨Nat.le_of_ble_eq_true rfl, Nat.le_of_ble_eq_true rfl⟩ (m_in _ _ _) ?_)
  rintro _ _ ⟨⟨u1, h1, rfl⟩, rfl⟩
  refine ev_if (cd := .eq) rfl (fun e => no ?_) (fun e1 => ?_)
  · intro hok
    rcases h1 with ⟨q, -⟩ | ⟨-, q⟩
    · rw [rc_eq_t e] at q; exact absurd q (by decide)
    · refine q ⟨hok.1, ?_⟩
      intro q2
      have : x < 12 := hok.2.1
      obtain ⟨k, hk, rfl⟩ := rz_idx (n := 12) (by decide) (fun h => hok.1 (Int32.lt_trans h (by decide))) this
      have := (rz_lt_iff (n := 11) (by omega) (by omega)).mp q2
      omega
  obtain ⟨-, x0, x1⟩ := h1.resolve_right (fun q => rc_eq_f e1 q.1)
  refine ev_ps 3 rfl (ev_call (av := [_, _, _]) rfl rfl rfl rfl ⟨Nat.le_of_ble_eq_true rfl, rfl⟩ ⟨Nat.le_of_ble_eq_true rfl, Nat.le_of_ble_eq_true rfl⟩ (m_in _ _ _) ?_)
  rintro _ _ ⟨⟨u2, h2, rfl⟩, rfl⟩
  refine ev_if (cd := .eq) rfl (fun e => no ?_) (fun e2 => ?_)
  · intro hok
    rcases h2 with ⟨q, -⟩ | ⟨-, q⟩
    · rw [rc_eq_t e] at q; exact absurd q (by decide)
    · exact q ⟨hok.2.2.1, hok.2.2.2⟩
  obtain ⟨-, y0, y1⟩ := h2.resolve_right (fun q => rc_eq_f e2 q.1)
  obtain ⟨k, hk, rfl⟩ := rz_le_nat (b := 11) (by decide) (fun h => x0 (Int32.lt_trans h (by decide))) x1
  obtain ⟨j, hj, rfl⟩ := rz_le_nat (b := 15) (by decide) y0 y1
  have hok : rz_sok (Int32.ofNat k) (Int32.ofNat j) := ⟨x0, (rz_lt_iff (k := 12) (by omega) (by omega)).mpr (by omega), y0, y1⟩
  refine ev_ps 3 rfl (ev_w (w2 := rz_w (rz_up v 20 0) a g) rfl ?_)
  refine ev_ps 2 rfl (ev_if (cd := .ne) rfl (fun h => absurd rfl (rc_ne_t h)) (fun h => ?_))
  refine ev_ps 4 rfl (ev_ast rfl rfl (rz_in (by omega) (by decide)) ?_)
  refine ev_w (w2 := rz_w (rz_up v 20 0) (rz_ua a 24 (upd (a 24) k (Int32.ofNat j))) g) (by rw [rz_clamp (by omega)]; rfl) ?_
  refine ev_ret rfl rfl ⟨_, _, rfl, ⟨rfl, Or.inl ⟨rfl, hok⟩⟩, (rz_mf.rf.up (by omega) _).ua (by omega) _, hR.1, hR.2.1, hR.2.2.1, hR.2.2.2.1, hR.2.2.2.2.1, ?_, hR.2.2.2.2.2.2⟩
  intro i hi
  show ∃ j', j' ≤ 15 ∧ upd (a 24) k (Int32.ofNat j) i = Int32.ofNat j'
  by_cases hik : i = k
  · exact ⟨j, hj, by simp [upd, hik]⟩
  · obtain ⟨j', hj', e⟩ := hR.2.2.2.2.2.1 i hi
    exact ⟨j', hj', by simp [upd, hik]; exact e⟩
end RZZ2
