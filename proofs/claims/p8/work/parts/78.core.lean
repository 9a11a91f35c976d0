/-! what is asked and answered, exactly: the class's methods and the reference's -/
section RZZ1
variable {xs : Nat → Int32} {xl : Nat} {v : Nat → Int32} {a : Nat → Nat → Int32} {g : Nat → Int64} {R : Nat → rz_Q} {n r b l : Nat} {w : rz_W}
def rz_mr (o : Int32) : Int32 := if o < 14 then 3 else 0
def rz_gt (o : Int32) : Int32 := if 5 < o then (if 9 < o then (if 11 < o then (if o = 15 then 0 else 24) else 7) else 15) else 3
def rz_okq (o d s t : Int32) : Prop := (¬ o < 0 ∧ ¬ 15 < o) ∧ (¬ d < 0 ∧ ¬ rz_mr o < d) ∧ (¬ s < 0 ∧ ¬ rz_mr o < s) ∧ (¬ t < 0 ∧ ¬ rz_gt o < t)
def rz_qq (o d s t : Int32) : rz_Q := (o.toNatClampNeg, d.toNatClampNeg, s.toNatClampNeg, t.toNatClampNeg)
def rz_ur (R : Nat → rz_Q) (k : Nat) (q : rz_Q) : Nat → rz_Q := fun j => if j = k then q else R j
theorem rz_gt_nat {i : Nat} (hi : i ≤ 15) : ∃ c, c ≤ 24 ∧ (i ≤ 5 → c ≤ 3) ∧ rz_gt (Int32.ofNat i) = Int32.ofNat c := by
  unfold rz_gt
  by_cases h5 : (5 : Int32) < Int32.ofNat i
  · have h5' : 5 < i := (rz_lt_iff (n := 5) (by omega) (by omega)).mp h5
    rw [if_pos h5]
    by_cases h9 : (9 : Int32) < Int32.ofNat i
    · rw [if_pos h9]
      by_cases h11 : (11 : Int32) < Int32.ofNat i
      · rw [if_pos h11]
        by_cases h15 : Int32.ofNat i = 15
        · rw [if_pos h15]; exact ⟨0, by omega, fun h => absurd h (by omega), rfl⟩
        · rw [if_neg h15]; exact ⟨24, by omega, fun h => absurd h (by omega), rfl⟩
      · rw [if_neg h11]; exact ⟨7, by omega, fun h => absurd h (by omega), rfl⟩
    · rw [if_neg h9]; exact ⟨15, by omega, fun h => absurd h (by omega), rfl⟩
  · rw [if_neg h5]; exact ⟨3, by omega, fun _ => by omega, rfl⟩
theorem rz_mr_nat (o : Int32) : ∃ c, c ≤ 3 ∧ rz_mr o = Int32.ofNat c := by
  unfold rz_mr
  by_cases h : o < 14
  · rw [if_pos h]; exact ⟨3, by omega, rfl⟩
  · rw [if_neg h]; exact ⟨0, by omega, rfl⟩
theorem rz_okq_lg {o d s t : Int32} (h : rz_okq o d s t) : rz_lg (rz_qq o d s t) ∧ o = Int32.ofNat (rz_qq o d s t).1 ∧ d = Int32.ofNat (rz_qq o d s t).2.1 ∧ s = Int32.ofNat (rz_qq o d s t).2.2.1 ∧ t = Int32.ofNat (rz_qq o d s t).2.2.2 := by
  obtain ⟨⟨o0, o1⟩, ⟨d0, d1⟩, ⟨s0, s1⟩, ⟨t0, t1⟩⟩ := h
  obtain ⟨i, hi, rfl⟩ := rz_le_nat (b := 15) (by decide) o0 o1
  obtain ⟨m, hm, em⟩ := rz_mr_nat (Int32.ofNat i)
  obtain ⟨c, hc, hc5, ec⟩ := rz_gt_nat hi
  rw [em] at d1 s1
  rw [ec] at t1
  obtain ⟨j, hj, rfl⟩ := rz_le_nat (b := m) (by omega) d0 d1
  obtain ⟨k, hk, rfl⟩ := rz_le_nat (b := m) (by omega) s0 s1
  obtain ⟨e, he, rfl⟩ := rz_le_nat (b := c) (by omega) t0 t1
  unfold rz_qq
  rw [rz_clamp (by omega), rz_clamp (by omega), rz_clamp (by omega), rz_clamp (by omega)]
  exact ⟨⟨hi, by show j ≤ 3; omega, by show k ≤ 3; omega, by show e ≤ 24; omega, fun h => by
    have := hc5 h
    show e ≤ 3
    omega⟩, rfl, rfl, rfl, rfl⟩
theorem x_greatestT (x0 : Int32) : rz_C xs xl 52 [.int x0] w (fun q w' => q = .inl (some (.int (rz_gt x0))) ∧ w' = w) := by
  refine ev_ps 2 rfl (ev_ic (cd := .gt) rfl (fun h1 => ?_) (fun h1 => ?_))
  · refine ev_ps 2 rfl (ev_ic (cd := .gt) rfl (fun h2 => ?_) (fun h2 => ?_))
    · refine ev_ps 2 rfl (ev_ic (cd := .gt) rfl (fun h3 => ?_) (fun h3 => ?_))
      · refine ev_ps 2 rfl (ev_ic (cd := .ne) rfl (fun h4 => ?_) (fun h4 => ?_))
        · exact ev_ps 1 rfl (ev_ret rfl rfl ⟨by rw [rz_gt, if_pos (show (5 : Int32) < x0 from rc_gt_t h1), if_pos (show (9 : Int32) < x0 from rc_gt_t h2), if_pos (show (11 : Int32) < x0 from rc_gt_t h3), if_neg (show ¬ x0 = 15 from rc_ne_t h4)]; rfl, rfl⟩)
        · exact ev_ps 2 rfl (ev_ret rfl rfl ⟨by rw [rz_gt, if_pos (show (5 : Int32) < x0 from rc_gt_t h1), if_pos (show (9 : Int32) < x0 from rc_gt_t h2), if_pos (show (11 : Int32) < x0 from rc_gt_t h3), if_pos (show x0 = 15 from rc_ne_f h4)]; rfl, rfl⟩)
      · exact ev_ps 1 rfl (ev_ret rfl rfl ⟨by rw [rz_gt, if_pos (show (5 : Int32) < x0 from rc_gt_t h1), if_pos (show (9 : Int32) < x0 from rc_gt_t h2), if_neg (show ¬ (11 : Int32) < x0 from rc_gt_f h3)]; rfl, rfl⟩)
    · exact ev_ps 1 rfl (ev_ret rfl rfl ⟨by rw [rz_gt, if_pos (show (5 : Int32) < x0 from rc_gt_t h1), if_neg (show ¬ (9 : Int32) < x0 from rc_gt_f h2)]; rfl, rfl⟩)
  · exact ev_ps 1 rfl (ev_ret rfl rfl ⟨by rw [rz_gt, if_neg (show ¬ (5 : Int32) < x0 from rc_gt_f h1)]; rfl, rfl⟩)
theorem x_isLegal (x0 x1 x2 x3 : Int32) : rz_C xs xl 51 [.int x0, .int x1, .int x2, .int x3] w (rz_bx w (rz_okq x0 x1 x2 x3)) := by
  refine ev_ps 1 rfl (ev_if (cd := .lt) rfl (fun h1 => ?_) (fun h1 => ?_))
  · exact ev_ps 1 rfl (ev_ret rfl rfl (rz_bx0 (fun z => z.1.1 (rc_lt_t h1))))
  refine ev_ps 2 rfl (ev_ic (cd := .le) rfl (fun h2 => ?_) (fun h2 => ?_))
  rotate_left
  · exact ev_ps 1 rfl (ev_ret rfl rfl (rz_bx0 (fun z => rc_le_f h2 (Int32.not_lt.mp z.1.2))))
  have ho : ¬ x0 < 0 ∧ ¬ 15 < x0 := ⟨rc_lt_f h1, Int32.not_lt.mpr (rc_le_t h2)⟩
  refine ev_ps 2 rfl (ev_ic (cd := .lt) rfl (fun h3 => ?_) (fun h3 => ?_))
  · have em : rz_mr x0 = 3 := if_pos (rc_lt_t h3)
    refine ev_ps 3 rfl (ev_if (cd := .lt) rfl (fun h4 => ?_) (fun h4 => ?_))
    · exact ev_ps 1 rfl (ev_ret rfl rfl (rz_bx0 (fun z => z.2.1.1 (rc_lt_t h4))))
    refine ev_ps 2 rfl (ev_ic (cd := .gt) rfl (fun h5 => ?_) (fun h5 => ?_))
    · exact ev_ps 1 rfl (ev_ret rfl rfl (rz_bx0 (fun z => z.2.1.2 (by rw [em]; exact rc_gt_t h5))))
    refine ev_ps 1 rfl (ev_if (cd := .lt) rfl (fun h6 => ?_) (fun h6 => ?_))
    · exact ev_ps 1 rfl (ev_ret rfl rfl (rz_bx0 (fun z => z.2.2.1.1 (rc_lt_t h6))))
    refine ev_ps 2 rfl (ev_ic (cd := .gt) rfl (fun h7 => ?_) (fun h7 => ?_))
    · exact ev_ps 1 rfl (ev_ret rfl rfl (rz_bx0 (fun z => z.2.2.1.2 (by rw [em]; exact rc_gt_t h7))))
    refine ev_ps 1 rfl (ev_if (cd := .lt) rfl (fun h8 => ?_) (fun h8 => ?_))
    · exact ev_ps 1 rfl (ev_ret rfl rfl (rz_bx0 (fun z => z.2.2.2.1 (rc_lt_t h8))))
    refine ev_ps 2 rfl (ev_call (av := [_]) rfl rfl rfl rfl ⟨Nat.le_of_ble_eq_true rfl, rfl⟩ ⟨Nat.le_of_ble_eq_true rfl, Nat.le_of_ble_eq_true rfl⟩ (x_greatestT _) ?_)
    rintro _ _ ⟨rfl, rfl⟩
    refine ev_ic (cd := .gt) rfl (fun h9 => ?_) (fun h9 => ?_)
    · exact ev_ps 1 rfl (ev_ret rfl rfl (rz_bx0 (fun z => z.2.2.2.2 (rc_gt_t h9))))
    · exact ev_ps 2 rfl (ev_ret rfl rfl (rz_bx1 ⟨ho, ⟨rc_lt_f h4, by rw [em]; exact rc_gt_f h5⟩, ⟨rc_lt_f h6, by rw [em]; exact rc_gt_f h7⟩, rc_lt_f h8, rc_gt_f h9⟩))
  · have em : rz_mr x0 = 0 := if_neg (rc_lt_f h3)
    refine ev_ps 4 rfl (ev_if (cd := .lt) rfl (fun h4 => ?_) (fun h4 => ?_))
    · exact ev_ps 1 rfl (ev_ret rfl rfl (rz_bx0 (fun z => z.2.1.1 (rc_lt_t h4))))
    refine ev_ps 2 rfl (ev_ic (cd := .gt) rfl (fun h5 => ?_) (fun h5 => ?_))
    · exact ev_ps 1 rfl (ev_ret rfl rfl (rz_bx0 (fun z => z.2.1.2 (by rw [em]; exact rc_gt_t h5))))
    refine ev_ps 1 rfl (ev_if (cd := .lt) rfl (fun h6 => ?_) (fun h6 => ?_))
    · exact ev_ps 1 rfl (ev_ret rfl rfl (rz_bx0 (fun z => z.2.2.1.1 (rc_lt_t h6))))
    refine ev_ps 2 rfl (ev_ic (cd := .gt) rfl (fun h7 => ?_) (fun h7 => ?_))
    · exact ev_ps 1 rfl (ev_ret rfl rfl (rz_bx0 (fun z => z.2.2.1.2 (by rw [em]; exact rc_gt_t h7))))
    refine ev_ps 1 rfl (ev_if (cd := .lt) rfl (fun h8 => ?_) (fun h8 => ?_))
    · exact ev_ps 1 rfl (ev_ret rfl rfl (rz_bx0 (fun z => z.2.2.2.1 (rc_lt_t h8))))
    refine ev_ps 2 rfl (ev_call (av := [_]) rfl rfl rfl rfl ⟨Nat.le_of_ble_eq_true rfl, rfl⟩ ⟨Nat.le_of_ble_eq_true rfl, Nat.le_of_ble_eq_true rfl⟩ (x_greatestT _) ?_)
    rintro _ _ ⟨rfl, rfl⟩
    refine ev_ic (cd := .gt) rfl (fun h9 => ?_) (fun h9 => ?_)
    · exact ev_ps 1 rfl (ev_ret rfl rfl (rz_bx0 (fun z => z.2.2.2.2 (rc_gt_t h9))))
    · exact ev_ps 2 rfl (ev_ret rfl rfl (rz_bx1 ⟨ho, ⟨rc_lt_f h4, by rw [em]; exact rc_gt_f h5⟩, ⟨rc_lt_f h6, by rw [em]; exact rc_gt_f h7⟩, rc_lt_f h8, rc_gt_f h9⟩))
theorem m_isInstructionX (x y z u : Int32) : rz_C xs xl 72 [.int x, .int y, .int z, .int u] w (rz_bx w (rz_okq x y z u)) := by
  have no : ¬ rz_okq x y z u → rz_E xs xl 72 28 [some (.int x), some (.int y), some (.int z), some (.int u), none] [] w 0 0 (rz_bx w (rz_okq x y z u)) := fun h => ev_ps 1 rfl (ev_ret rfl rfl (rz_bx0 h))
  have no2 : ¬ rz_okq x y z u → ∀ t, rz_E xs xl 72 103 [some (.int x), some (.int y), some (.int z), some (.int u), t] [] w 0 0 (rz_bx w (rz_okq x y z u)) := fun h t => ev_ps 1 rfl (ev_ret rfl rfl (rz_bx0 h))
  have m3 : ∀ c : Int32, ¬ rz_mr x < c → ¬ 3 < c := fun c hc h3 => hc (by
    unfold rz_mr
    by_cases h : x < 14
    · rw [if_pos h]; exact h3
    · rw [if_neg h]; exact Int32.lt_trans (by decide) h3)
  refine ev_ps 3 rfl (ev_call (av := [_, _, _]) rfl rfl rfl rfl ⟨Nat.le_of_ble_eq_true rfl, rfl⟩ ⟨Nat.le_of_ble_eq_true rfl, Nat.le_of_ble_eq_true rfl⟩ (m_in _ _ _) ?_)
  rintro _ w ⟨⟨u1, h1, rfl⟩, rfl⟩
  refine ev_if (cd := .eq) rfl (fun e => no ?_) (fun e1 => ?_)
  · rcases h1 with ⟨q, -⟩ | ⟨-, q⟩
    · exact absurd ((rc_eq_t e).symm.trans q) (by decide)
    · exact fun k => q k.1
  obtain ⟨-, x0, x1⟩ := h1.resolve_right (fun q => rc_eq_f e1 q.1)
  refine ev_ps 3 rfl (ev_call (av := [_, _, _]) rfl rfl rfl rfl ⟨Nat.le_of_ble_eq_true rfl, rfl⟩ ⟨Nat.le_of_ble_eq_true rfl, Nat.le_of_ble_eq_true rfl⟩ (m_in _ _ _) ?_)
  rintro _ w ⟨⟨u2, h2, rfl⟩, rfl⟩
  refine ev_if (cd := .eq) rfl (fun e => no ?_) (fun e2 => ?_)
  · rcases h2 with ⟨q, -⟩ | ⟨-, q⟩
    · exact absurd ((rc_eq_t e).symm.trans q) (by decide)
    · exact fun k => q ⟨k.2.1.1, m3 _ k.2.1.2⟩
  obtain ⟨-, y0, y1⟩ := h2.resolve_right (fun q => rc_eq_f e2 q.1)
  refine ev_ps 3 rfl (ev_call (av := [_, _, _]) rfl rfl rfl rfl ⟨Nat.le_of_ble_eq_true rfl, rfl⟩ ⟨Nat.le_of_ble_eq_true rfl, Nat.le_of_ble_eq_true rfl⟩ (m_in _ _ _) ?_)
  rintro _ w ⟨⟨u3, h3, rfl⟩, rfl⟩
  refine ev_if (cd := .ne) rfl (fun e3 => ?_) (fun e => no ?_)
  rotate_left
  · rcases h3 with ⟨q, -⟩ | ⟨-, q⟩
    · exact absurd ((rc_ne_f e).symm.trans q) (by decide)
    · exact fun k => q ⟨k.2.2.1.1, m3 _ k.2.2.1.2⟩
  obtain ⟨-, z0, z1⟩ := h3.resolve_right (fun q => rc_ne_t e3 q.1)
  have main : ∀ c : Int32, c = rz_gt x → rz_E xs xl 72 73 [some (.int x), some (.int y), some (.int z), some (.int u), none] [.int c] w 0 0 (rz_bx w (rz_okq x y z u)) := by
    intro c hc
    subst hc
    refine ev_ps 4 rfl (ev_call (av := [_, _, _]) rfl rfl rfl rfl ⟨Nat.le_of_ble_eq_true rfl, rfl⟩ ⟨Nat.le_of_ble_eq_true rfl, Nat.le_of_ble_eq_true rfl⟩ (m_in _ _ _) ?_)
    rintro _ _ ⟨⟨u4, h4, rfl⟩, rfl⟩
    refine ev_if (cd := .eq) rfl (fun e => no2 ?_ _) (fun e4 => ?_)
    · rcases h4 with ⟨q, -⟩ | ⟨-, q⟩
      · exact absurd ((rc_eq_t e).symm.trans q) (by decide)
      · exact fun k => q k.2.2.2
    obtain ⟨-, t0, t1⟩ := h4.resolve_right (fun q => rc_eq_f e4 q.1)
    refine ev_ps 2 rfl (ev_ic (cd := .lt) rfl (fun e => ?_) (fun e => ?_))
    · have em : rz_mr x = 3 := if_pos (rc_lt_t e)
      exact ev_ps 2 rfl (ev_ret rfl rfl (rz_bx1 ⟨⟨x0, x1⟩, ⟨y0, by rw [em]; exact y1⟩, ⟨z0, by rw [em]; exact z1⟩, t0, t1⟩))
    · have em : rz_mr x = 0 := if_neg (rc_lt_f e)
      have zz : ∀ c : Int32, ¬ c < 0 → ¬ (0 : Int32) < c → c = 0 := fun c h1 h2 => Int32.le_antisymm (Int32.not_lt.mp h2) (Int32.not_lt.mp h1)
      refine ev_ps 1 rfl (ev_if (cd := .ne) rfl (fun e => no2 (fun k => rc_ne_t e (zz _ k.2.1.1 (by have := k.2.1.2; rw [em] at this; exact this))) _) (fun e5 => ?_))
      refine ev_ps 1 rfl (ev_if (cd := .ne) rfl (fun e => no2 (fun k => rc_ne_t e (zz _ k.2.2.1.1 (by have := k.2.2.1.2; rw [em] at this; exact this))) _) (fun e6 => ?_))
      have ey := rc_ne_f e5
      have ez := rc_ne_f e6
      exact ev_ps 2 rfl (ev_ret rfl rfl (rz_bx1 ⟨⟨x0, x1⟩, ⟨y0, by rw [em, ey]; decide⟩, ⟨z0, by rw [em, ez]; decide⟩, t0, t1⟩))
  refine ev_ps 2 rfl (ev_ic (cd := .gt) rfl (fun e5 => ?_) (fun e5 => ?_))
  · refine ev_ps 2 rfl (ev_ic (cd := .gt) rfl (fun e9 => ?_) (fun e9 => ?_))
    · refine ev_ps 2 rfl (ev_ic (cd := .gt) rfl (fun e11 => ?_) (fun e11 => ?_))
      · refine ev_ps 2 rfl (ev_ic (cd := .gt) rfl (fun e14 => ?_) (fun e14 => ?_))
        · refine ev_ps 1 rfl (main 0 ?_)
          obtain ⟨i, hi, rfl⟩ := rz_le_nat (b := 15) (by decide) x0 x1
          have h14 : 14 < i := (rz_lt_iff (n := 14) (by omega) (by omega)).mp (rc_gt_t e14)
          have e15 : i = 15 := by omega
          subst e15
          rfl
        · refine ev_ps 2 rfl (main 24 ?_)
          rw [rz_gt, if_pos (show (5 : Int32) < x from rc_gt_t e5), if_pos (show (9 : Int32) < x from rc_gt_t e9), if_pos (show (11 : Int32) < x from rc_gt_t e11), if_neg (show ¬ x = 15 from fun q => rc_gt_f e14 (by rw [q]; decide))]
      · exact ev_ps 2 rfl (main 7 (by rw [rz_gt, if_pos (show (5 : Int32) < x from rc_gt_t e5), if_pos (show (9 : Int32) < x from rc_gt_t e9), if_neg (show ¬ (11 : Int32) < x from rc_gt_f e11)]))
    · exact ev_ps 2 rfl (main 15 (by rw [rz_gt, if_pos (show (5 : Int32) < x from rc_gt_t e5), if_neg (show ¬ (9 : Int32) < x from rc_gt_f e9)]))
  · exact ev_ps 2 rfl (main 3 (by rw [rz_gt, if_neg (show ¬ (5 : Int32) < x from rc_gt_f e5)]))
/-- what a method of the class, or of the law's that calls it, leaves -/
def rz_PC (v : Nat → Int32) (a : Nat → Nat → Int32) (P : rz_R → (Nat → Int64) → (Nat → Int32) → (Nat → Nat → Int32) → Prop) (R : Nat → rz_Q) (n r b l : Nat) : rz_R → rz_W → Prop := fun q w' => ∃ v' a' g', P q g' v' a' ∧ w' = rz_w v' a' g' ∧ rz_cf v a v' a' ∧ rz_CC v' a' R n r b l
/-- what a method of the reference leaves -/
def rz_PM (v : Nat → Int32) (a : Nat → Nat → Int32) (g : Nat → Int64) (P : rz_R → (Nat → Int32) → (Nat → Nat → Int32) → Prop) (R : Nat → rz_Q) (n r b l : Nat) : rz_R → rz_W → Prop := fun q w' => ∃ v' a', w' = rz_w v' a' g ∧ P q v' a' ∧ rz_mf v a v' a' ∧ rz_RR v' a' R n r b l
theorem rz_RR_cf {v' : Nat → Int32} {a' : Nat → Nat → Int32} (hf : rz_cf v a v' a') (h : rz_RR v a R n r b l) : rz_RR v' a' R n r b l := by
  obtain ⟨h1, h2, h3, h4, h5, h6, h7, h8, h9, h10⟩ := h
  refine ⟨h1, (hf.1 21 (by omega)).trans h2, fun k hk => ?_, h4, ?_, ?_, ?_, (hf.1 24 (by omega)).trans h8, (hf.1 25 (by omega)).trans h9, (hf.1 26 (by omega)).trans h10⟩
  · rw [hf.2 20 (by omega), hf.2 21 (by omega), hf.2 22 (by omega), hf.2 23 (by omega)]; exact h3 k hk
  · show rz_LI (a' 20 24) (a' 21 24) (a' 22 24) (a' 23 24)
    rw [hf.2 20 (by omega), hf.2 21 (by omega), hf.2 22 (by omega), hf.2 23 (by omega)]; exact h5
  · rw [hf.2 24 (by omega)]; exact h6
  · rw [hf.2 25 (by omega)]; exact h7
theorem rz_CC_mf {v' : Nat → Int32} {a' : Nat → Nat → Int32} (hf : rz_mf v a v' a') (h : rz_CC v a R n r b l) : rz_CC v' a' R n r b l := by
  obtain ⟨h1, h2, h3, h4, h5, h6, h7, L, hL, h8⟩ := h
  exact ⟨h1, (hf.1 0 (by omega)).trans h2, fun k hk => by rw [hf.2 0 (by omega)]; exact h3 k hk, h4, (hf.1 13 (by omega)).trans h5, (hf.1 14 (by omega)).trans h6, (hf.1 15 (by omega)).trans h7, L, hL, (hf.1 8 (by omega)).trans h8⟩
/-- which answer add gives -/
noncomputable def rz_ka (o d s t : Int32) (n : Nat) : Int32 := if rz_dc (rz_okq o d s t) = true then (if n < 24 then 0 else 2) else 1
/-- which answer replace gives -/
noncomputable def rz_kr (x o d s t : Int32) (n : Nat) : Int32 := if rz_dc (rz_okq o d s t) = true then (if rz_dc (¬ x < 0 ∧ x < Int32.ofNat n) = true then 0 else 2) else 1
def rz_Ra (R : Nat → rz_Q) (k : Nat) (q : rz_Q) (c : Int32) : Nat → rz_Q := if c = 0 then rz_ur R k q else R
def rz_nag (n : Nat) (c : Int32) : Nat := if c = 0 then n + 1 else n
/-- which answer instruction gives -/
noncomputable def rz_ki (x y : Int32) (n : Nat) : Int32 := if rz_dc (¬ y < 0 ∧ ¬ 3 < y) = true then (if rz_dc (¬ x < 0 ∧ x < Int32.ofNat n) = true then 0 else 2) else 1
def rz_part (q : rz_Q) (y : Int32) : Int32 := if y = 0 then Int32.ofNat q.1 else if y = 1 then Int32.ofNat q.2.1 else if y = 2 then Int32.ofNat q.2.2.1 else Int32.ofNat q.2.2.2
/-- which answer live, and block, give -/
noncomputable def rz_kl (x : Int32) (n : Nat) : Int32 := if rz_dc (¬ x < 0 ∧ ¬ Int32.ofNat n < x) = true then 0 else 1
noncomputable def rz_kb (x : Int32) (n : Nat) : Int32 := if rz_dc (¬ x < 0 ∧ x < Int32.ofNat n) = true then 0 else 1
noncomputable def rz_bk (R : Nat → rz_Q) (n : Nat) : Nat → Nat
  | 0 => 0
  | k + 1 => if rz_dc (rz_bn R n (k + 1)) = true then k + 1 else rz_bk R n k
def rz_cn (x : Int32) (r b l : Nat) : Int32 := if x = 0 then Int32.ofNat r else if x = 1 then Int32.ofNat b else if x = 2 then Int32.ofNat l else -1
theorem rz_CC.add {q : rz_Q} (h : rz_CC v a R n r b l) (hn : n < 24) (hq : rz_lg q) : rz_CC (rz_up v 0 (Int32.ofNat (n + 1))) (rz_ua a 0 (upd (a 0) n (rz_pk q))) (rz_ur R n q) (n + 1) r b l := by
  obtain ⟨h1, h2, h3, h4, h5⟩ := h
  refine ⟨by omega, rfl, fun k hk => ?_, fun k hk => ?_, h5⟩
  · show upd (a 0) n (rz_pk q) k = rz_pk (rz_ur R n q k)
    by_cases hkn : k = n
    · simp [upd, rz_ur, hkn]
    · simp only [upd, rz_ur, hkn, if_false]; exact h3 k (by omega)
  · unfold rz_ur
    by_cases hkn : k = n
    · rw [if_pos hkn]; exact hq
    · rw [if_neg hkn]; exact h4 k (by omega)
theorem rz_CC.put {q : rz_Q} {p : Nat} (h : rz_CC v a R n r b l) (hq : rz_lg q) : rz_CC v (rz_ua a 0 (upd (a 0) p (rz_pk q))) (rz_ur R p q) n r b l := by
  obtain ⟨h1, h2, h3, h4, h5⟩ := h
  refine ⟨h1, h2, fun k hk => ?_, fun k hk => ?_, h5⟩
  · show upd (a 0) p (rz_pk q) k = rz_pk (rz_ur R p q k)
    by_cases hkn : k = p
    · simp [upd, rz_ur, hkn]
    · simp only [upd, rz_ur, hkn, if_false]; exact h3 k (by omega)
  · unfold rz_ur
    by_cases hkn : k = p
    · rw [if_pos hkn]; exact hq
    · rw [if_neg hkn]; exact h4 k (by omega)
theorem rz_RR.add {x0 x1 x2 x3 : Int32} {q : rz_Q} (h : rz_RR v a R n r b l) (hn : n < 24) (hq : rz_lg q) (e : x0 = Int32.ofNat q.1 ∧ x1 = Int32.ofNat q.2.1 ∧ x2 = Int32.ofNat q.2.2.1 ∧ x3 = Int32.ofNat q.2.2.2) : rz_RR (rz_up v 21 (Int32.ofNat (n + 1))) (rz_pt a n x0 x1 x2 x3) (rz_ur R n q) (n + 1) r b l := by
  obtain ⟨h1, h2, h3, h4, h5, h6⟩ := h
  have hLI : rz_LI x0 x1 x2 x3 := ⟨_, _, _, _, e.1, e.2.1, e.2.2.1, e.2.2.2, hq.1, hq.2.1, hq.2.2.1, hq.2.2.2.1, hq.2.2.2.2⟩
  refine ⟨by omega, rfl, fun k hk => ?_, fun k hk => ?_, rz_pt_li (fun _ => hLI) (fun _ => h5), h6⟩
  · exact rz_pt_ro (fun hkn => by unfold rz_ur; rw [if_pos hkn]; exact e) (fun hkn => by unfold rz_ur; rw [if_neg hkn]; exact h3 k (by omega))
  · unfold rz_ur
    by_cases hkn : k = n
    · rw [if_pos hkn]; exact hq
    · rw [if_neg hkn]; exact h4 k (by omega)
theorem rz_RR.put {x0 x1 x2 x3 : Int32} {q : rz_Q} {p : Nat} (h : rz_RR v a R n r b l) (hq : rz_lg q) (e : x0 = Int32.ofNat q.1 ∧ x1 = Int32.ofNat q.2.1 ∧ x2 = Int32.ofNat q.2.2.1 ∧ x3 = Int32.ofNat q.2.2.2) : rz_RR v (rz_pt a p x0 x1 x2 x3) (rz_ur R p q) n r b l := by
  obtain ⟨h1, h2, h3, h4, h5, h6⟩ := h
  have hLI : rz_LI x0 x1 x2 x3 := ⟨_, _, _, _, e.1, e.2.1, e.2.2.1, e.2.2.2, hq.1, hq.2.1, hq.2.2.1, hq.2.2.2.1, hq.2.2.2.2⟩
  refine ⟨h1, h2, fun k hk => ?_, fun k hk => ?_, rz_pt_li (fun _ => hLI) (fun _ => h5), h6⟩
  · exact rz_pt_ro (fun hkn => by unfold rz_ur; rw [if_pos hkn]; exact e) (fun hkn => by unfold rz_ur; rw [if_neg hkn]; exact h3 k hk)
  · unfold rz_ur
    by_cases hkn : k = p
    · rw [if_pos hkn]; exact hq
    · rw [if_neg hkn]; exact h4 k (by omega)
theorem y_append (x : Int32) (hv : v 0 = Int32.ofNat n) (hn : n < 24) : rz_C xs xl 54 [.ref 1, .int x] (rz_w v a g) (fun q w' => q = .inl (some (.int (Int32.ofNat n))) ∧ w' = rz_w (rz_up v 0 (Int32.ofNat (n + 1))) (rz_ua a 0 (upd (a 0) n x)) g) := by
  refine ev_ps 5 rfl (ev_ast rfl rfl (by rw [hv]; exact rz_in hn (by decide)) ?_)
  refine ev_w (w2 := rz_w v (rz_ua a 0 (upd (a 0) n x)) g) (by rw [hv, rz_clamp (by omega)]; rfl) ?_
  refine ev_ps 6 rfl (ev_w (w2 := rz_w (rz_up v 0 (Int32.ofNat (n + 1))) (rz_ua a 0 (upd (a 0) n x)) g) (by rw [← rz_succ n, ← hv]; rfl) ?_)
  refine ev_ps 4 rfl (ev_ret rfl rfl ⟨?_, rfl⟩)
  have e : Int32.ofNat (n + 1) - 1 = Int32.ofNat n := rz_sub (k := n + 1) (n := 1) (by omega)
  exact congrArg (fun z => (Sum.inl (some (Value.int z)) : rz_R)) e
theorem y_put {k : Nat} (x : Int32) (hk : k < 24) : rz_C xs xl 56 [.ref 1, .int (Int32.ofNat k), .int x] (rz_w v a g) (fun q w' => q = .inl none ∧ w' = rz_w v (rz_ua a 0 (upd (a 0) k x)) g) := by
  refine ev_ps 4 rfl (ev_ast rfl rfl (rz_in hk (by decide)) ?_)
  exact ev_ret rfl rfl ⟨rfl, by rw [rz_clamp (by omega)]; rfl⟩
theorem y_isFull : rz_C xs xl 53 [.ref 1] (rz_w v a g) (rz_bx (rz_w v a g) (¬ v 0 < 24)) := by
  refine ev_ps 3 rfl (ev_ic (cd := .lt) rfl (fun h1 => ?_) (fun h1 => ?_))
  · exact ev_ps 1 rfl (ev_ret rfl rfl (rz_bx0 (fun z => z (rc_lt_t h1))))
  · exact ev_ps 2 rfl (ev_ret rfl rfl (rz_bx1 (rc_lt_f h1)))
theorem ev_tswd {M pc : Nat} {L : rz_L} {st : List Value} {kc ks : Nat} {post : rz_R → rz_W → Prop} {d lo hi : Int} {offs : Array Int} {len x y z : Nat} {u : Int32} (hc : rz_code M pc = some (0, .tableswitch d lo hi offs, len, x, y, z)) (hu : u.toInt < lo ∨ hi < u.toInt) (k : rz_E xs xl M (rz_tg pc d) L st w kc ks post) : rz_E xs xl M pc L (.int u :: st) w kc ks post := by
  refine ev_p hc rfl ?_
  rw [if_pos hu]
  exact k
theorem p_addX (hC : rz_CC v a R n r b l) (x0 x1 x2 x3 : Int32) : rz_C xs xl 50 [.ref 0, .int x0, .int x1, .int x2, .int x3] (rz_w v a g) (rz_PC v a (fun q g' v' a' => ((rz_ka x0 x1 x2 x3 n = 0 ∧ q = .inl (some (.int (Int32.ofNat n)))) ∨ (rz_ka x0 x1 x2 x3 n = 1 ∧ q = .inr 0) ∨ (rz_ka x0 x1 x2 x3 n = 2 ∧ q = .inr 1)) ∧ g' = g ∧ rz_kc v a v' a') (rz_Ra R n (rz_qq x0 x1 x2 x3) (rz_ka x0 x1 x2 x3 n)) (rz_nag n (rz_ka x0 x1 x2 x3 n)) r b l) := by
  have hn := hC.1
  refine ev_ps 4 rfl (ev_call (av := [_, _, _, _]) rfl rfl rfl rfl ⟨Nat.le_of_ble_eq_true rfl, rfl⟩ ⟨Nat.le_of_ble_eq_true rfl, Nat.le_of_ble_eq_true rfl⟩ (x_isLegal _ _ _ _) ?_)
  rintro _ _ ⟨⟨u, hu, hui, rfl⟩, rfl⟩
  refine ev_if (cd := .ne) rfl (fun h => ?_) (fun h => ?_)
  rotate_left
  · have hno : ¬ rz_okq x0 x1 x2 x3 := fun z => absurd ((rc_ne_f h).symm.trans (hui.mpr z)) (by decide)
    have e : rz_ka x0 x1 x2 x3 n = 1 := by rw [rz_ka, rz_dc_f hno]; rfl
    rw [e]
    exact ev_thr rfl ⟨Nat.le_of_ble_eq_true rfl, Nat.le_of_ble_eq_true rfl⟩ ⟨v, a, g, ⟨Or.inr (Or.inl ⟨rfl, rfl⟩), rfl, rz_kc.rf⟩, rfl, rz_cf.rf, hC⟩
  have hok : rz_okq x0 x1 x2 x3 := hui.mp (hu.resolve_left (rc_ne_t h))
  refine ev_ps 2 rfl (ev_call (av := [_]) rfl rfl rfl rfl ⟨Nat.le_of_ble_eq_true rfl, rfl⟩ ⟨Nat.le_of_ble_eq_true rfl, Nat.le_of_ble_eq_true rfl⟩ (y_isFull) ?_)
  rintro _ _ ⟨⟨u2, hu2, hui2, rfl⟩, rfl⟩
  refine ev_if (cd := .eq) rfl (fun h2 => ?_) (fun h2 => ?_)
  · have hlt : v 0 < 24 := Classical.byContradiction fun z => absurd ((rc_eq_t h2).symm.trans (hui2.mpr z)) (by decide)
    rw [hC.2.1] at hlt
    have hn' : n < 24 := (rz_lt_iff (k := 24) (by omega) (by omega)).mp hlt
    have e : rz_ka x0 x1 x2 x3 n = 0 := by rw [rz_ka, rz_dc_t hok, if_pos rfl, if_pos hn']
    rw [e]
    obtain ⟨hlg, e1, e2, e3, e4⟩ := rz_okq_lg hok
    refine ev_ps 6 rfl (ev_call (av := [_, _, _, _]) rfl rfl rfl rfl ⟨Nat.le_of_ble_eq_true rfl, rfl⟩ ⟨Nat.le_of_ble_eq_true rfl, Nat.le_of_ble_eq_true rfl⟩ (c_pack _ _ _ _) ?_)
    rintro _ _ ⟨rfl, rfl⟩
    rw [show (x0 <<< 9 ||| x1 <<< 7 ||| x2 <<< 5 ||| x3) = rz_pk (rz_qq x0 x1 x2 x3) from by rw [rz_pk, ← e1, ← e2, ← e3, ← e4]]
    refine ev_call (av := [_, _]) rfl rfl rfl rfl ⟨Nat.le_of_ble_eq_true rfl, rfl⟩ ⟨Nat.le_of_ble_eq_true rfl, Nat.le_of_ble_eq_true rfl⟩ (y_append _ hC.2.1 hn') ?_
    rintro _ _ ⟨rfl, rfl⟩
    exact ev_ret rfl rfl ⟨_, _, g, ⟨Or.inl ⟨rfl, rfl⟩, rfl, (rz_kc.rf.up (by decide) _).ua (by decide) _⟩, rfl, (rz_cf.rf.up (by decide) _).ua (by decide) _, hC.add hn' hlg⟩
  · have hnl : ¬ v 0 < 24 := hui2.mp (hu2.resolve_left (rc_eq_f h2))
    rw [hC.2.1] at hnl
    have hn' : ¬ n < 24 := fun z => hnl ((rz_lt_iff (k := 24) (by omega) (by omega)).mpr z)
    have e : rz_ka x0 x1 x2 x3 n = 2 := by rw [rz_ka, rz_dc_t hok, if_pos rfl, if_neg hn']
    rw [e]
    exact ev_thr rfl ⟨Nat.le_of_ble_eq_true rfl, Nat.le_of_ble_eq_true rfl⟩ ⟨v, a, g, ⟨Or.inr (Or.inr ⟨rfl, rfl⟩), rfl, rz_kc.rf⟩, rfl, rz_cf.rf, hC⟩
theorem l_addX (hC : rz_CC v a R n r b l) (x0 x1 x2 x3 : Int32) : rz_C xs xl 104 [.ref 0, .int x0, .int x1, .int x2, .int x3, .ref 35] (rz_w v a g) (rz_PC v a (fun q g' v' a' => q = .inl (some (.int (rz_ka x0 x1 x2 x3 n))) ∧ (rz_ka x0 x1 x2 x3 n = 0 → g' 0 = (Int32.ofNat n).toInt64) ∧ rz_kc v a v' a') (rz_Ra R n (rz_qq x0 x1 x2 x3) (rz_ka x0 x1 x2 x3 n)) (rz_nag n (rz_ka x0 x1 x2 x3 n)) r b l) := by
  refine ev_ps 7 rfl (ev_call (av := [_, _, _, _, _]) rfl rfl rfl rfl ⟨Nat.le_of_ble_eq_true rfl, rfl⟩ ⟨Nat.le_of_ble_eq_true rfl, Nat.le_of_ble_eq_true rfl⟩ (p_addX hC _ _ _ _) ?_)
  rintro _ _ ⟨v2, a2, _, ⟨hor, rfl, hk⟩, rfl, h1, h2⟩
  generalize rz_ka x0 x1 x2 x3 n = kk at hor h2 ⊢
  rcases hor with ⟨rfl, rfl⟩ | ⟨rfl, rfl⟩ | ⟨rfl, rfl⟩
  · exact ev_ps 4 rfl (ev_ret rfl rfl ⟨_, _, _, ⟨rfl, fun _ => rfl, hk⟩, rfl, h1, h2⟩)
  · exact ⟨19, 6, rfl, ev_ps 1 rfl (ev_ret rfl rfl ⟨_, _, _, ⟨rfl, fun z => absurd z (by decide), hk⟩, rfl, h1, h2⟩)⟩
  · exact ⟨23, 6, rfl, ev_ps 1 rfl (ev_ret rfl rfl ⟨_, _, _, ⟨rfl, fun z => absurd z (by decide), hk⟩, rfl, h1, h2⟩)⟩
theorem p_replaceX (hC : rz_CC v a R n r b l) (x0 x1 x2 x3 x4 : Int32) : rz_C xs xl 55 [.ref 0, .int x0, .int x1, .int x2, .int x3, .int x4] (rz_w v a g) (rz_PC v a (fun q g' v' a' => ((rz_kr x0 x1 x2 x3 x4 n = 0 ∧ q = .inl none) ∨ (rz_kr x0 x1 x2 x3 x4 n = 1 ∧ q = .inr 0) ∨ (rz_kr x0 x1 x2 x3 x4 n = 2 ∧ q = .inr 2)) ∧ g' = g ∧ rz_kc v a v' a') (rz_Ra R x0.toNatClampNeg (rz_qq x1 x2 x3 x4) (rz_kr x0 x1 x2 x3 x4 n)) n r b l) := by
  have hn := hC.1
  refine ev_ps 4 rfl (ev_call (av := [_, _, _, _]) rfl rfl rfl rfl ⟨Nat.le_of_ble_eq_true rfl, rfl⟩ ⟨Nat.le_of_ble_eq_true rfl, Nat.le_of_ble_eq_true rfl⟩ (x_isLegal _ _ _ _) ?_)
  rintro _ _ ⟨⟨u, hu, hui, rfl⟩, rfl⟩
  refine ev_if (cd := .ne) rfl (fun h => ?_) (fun h => ?_)
  rotate_left
  · have hno : ¬ rz_okq x1 x2 x3 x4 := fun z => absurd ((rc_ne_f h).symm.trans (hui.mpr z)) (by decide)
    have e : rz_kr x0 x1 x2 x3 x4 n = 1 := by rw [rz_kr, rz_dc_f hno]; rfl
    rw [e]
    exact ev_thr rfl ⟨Nat.le_of_ble_eq_true rfl, Nat.le_of_ble_eq_true rfl⟩ ⟨v, a, g, ⟨Or.inr (Or.inl ⟨rfl, rfl⟩), rfl, rz_kc.rf⟩, rfl, rz_cf.rf, hC⟩
  have hok : rz_okq x1 x2 x3 x4 := hui.mp (hu.resolve_left (rc_ne_t h))
  refine ev_ps 3 rfl (ev_call (av := [_, _]) rfl rfl rfl rfl ⟨Nat.le_of_ble_eq_true rfl, rfl⟩ ⟨Nat.le_of_ble_eq_true rfl, Nat.le_of_ble_eq_true rfl⟩ (y_has _) ?_)
  rintro _ _ ⟨⟨u2, hu2, hui2, rfl⟩, rfl⟩
  rw [hC.2.1] at hui2
  refine ev_if (cd := .ne) rfl (fun h2 => ?_) (fun h2 => ?_)
  · have hin := hui2.mp (hu2.resolve_left (rc_ne_t h2))
    have e : rz_kr x0 x1 x2 x3 x4 n = 0 := by rw [rz_kr, rz_dc_t hok, if_pos rfl, rz_dc_t hin, if_pos rfl]
    rw [e]
    obtain ⟨hlg, e1, e2, e3, e4⟩ := rz_okq_lg hok
    obtain ⟨p, hp, rfl⟩ := rz_idx (by omega) hin.1 hin.2
    refine ev_ps 7 rfl (ev_call (av := [_, _, _, _]) rfl rfl rfl rfl ⟨Nat.le_of_ble_eq_true rfl, rfl⟩ ⟨Nat.le_of_ble_eq_true rfl, Nat.le_of_ble_eq_true rfl⟩ (c_pack _ _ _ _) ?_)
    rintro _ _ ⟨rfl, rfl⟩
    rw [show (x1 <<< 9 ||| x2 <<< 7 ||| x3 <<< 5 ||| x4) = rz_pk (rz_qq x1 x2 x3 x4) from by rw [rz_pk, ← e1, ← e2, ← e3, ← e4]]
    refine ev_call (av := [_, _, _]) rfl rfl rfl rfl ⟨Nat.le_of_ble_eq_true rfl, rfl⟩ ⟨Nat.le_of_ble_eq_true rfl, Nat.le_of_ble_eq_true rfl⟩ (y_put _ (by omega)) ?_
    rintro _ _ ⟨rfl, rfl⟩
    refine ev_ret rfl rfl ⟨_, _, g, ⟨Or.inl ⟨rfl, rfl⟩, rfl, rz_kc.rf.ua (by decide) _⟩, rfl, rz_cf.rf.ua (by decide) _, ?_⟩
    rw [rz_clamp (by omega)]
    exact hC.put hlg
  · have hin : ¬ (¬ x0 < 0 ∧ x0 < Int32.ofNat n) := fun z => absurd ((rc_ne_f h2).symm.trans (hui2.mpr z)) (by decide)
    have e : rz_kr x0 x1 x2 x3 x4 n = 2 := by rw [rz_kr, rz_dc_t hok, if_pos rfl, rz_dc_f hin, if_neg (by decide)]
    rw [e]
    exact ev_thr rfl ⟨Nat.le_of_ble_eq_true rfl, Nat.le_of_ble_eq_true rfl⟩ ⟨v, a, g, ⟨Or.inr (Or.inr ⟨rfl, rfl⟩), rfl, rz_kc.rf⟩, rfl, rz_cf.rf, hC⟩
theorem l_replaceX (hC : rz_CC v a R n r b l) (x0 x1 x2 x3 x4 : Int32) : rz_C xs xl 105 [.ref 0, .int x0, .int x1, .int x2, .int x3, .int x4] (rz_w v a g) (rz_PC v a (fun q g' v' a' => q = .inl (some (.int (rz_kr x0 x1 x2 x3 x4 n))) ∧ rz_kc v a v' a') (rz_Ra R x0.toNatClampNeg (rz_qq x1 x2 x3 x4) (rz_kr x0 x1 x2 x3 x4 n)) n r b l) := by
  refine ev_ps 6 rfl (ev_call (av := [_, _, _, _, _, _]) rfl rfl rfl rfl ⟨Nat.le_of_ble_eq_true rfl, rfl⟩ ⟨Nat.le_of_ble_eq_true rfl, Nat.le_of_ble_eq_true rfl⟩ (p_replaceX hC _ _ _ _ _) ?_)
  rintro _ _ ⟨v2, a2, _, ⟨hor, rfl, hk⟩, rfl, h1, h2⟩
  generalize rz_kr x0 x1 x2 x3 x4 n = kk at hor h2 ⊢
  rcases hor with ⟨rfl, rfl⟩ | ⟨rfl, rfl⟩ | ⟨rfl, rfl⟩
  · exact ev_ps 2 rfl (ev_ret rfl rfl ⟨_, _, _, ⟨rfl, hk⟩, rfl, h1, h2⟩)
  · exact ⟨16, 6, rfl, ev_ps 1 rfl (ev_ret rfl rfl ⟨_, _, _, ⟨rfl, hk⟩, rfl, h1, h2⟩)⟩
  · exact ⟨20, 6, rfl, ev_ps 1 rfl (ev_ret rfl rfl ⟨_, _, _, ⟨rfl, hk⟩, rfl, h1, h2⟩)⟩
theorem p_clearX (hC : rz_CC v a R n r b l) : rz_C xs xl 1 [.ref 0] (rz_w v a g) (rz_PC v a (fun q g' v' a' => q = .inl (some (.int (Int32.ofNat n))) ∧ rz_kc v a v' a') R 0 r b l) := by
  refine ev_ps 2 rfl (ev_call (av := [_]) rfl rfl rfl rfl ⟨Nat.le_of_ble_eq_true rfl, rfl⟩ ⟨Nat.le_of_ble_eq_true rfl, Nat.le_of_ble_eq_true rfl⟩ (c_empty) ?_)
  rintro _ _ ⟨rfl, rfl⟩
  rw [hC.2.1]
  exact ev_ret rfl rfl ⟨_, _, g, ⟨rfl, rz_kc.rf.up (by decide) _⟩, rfl, rz_cf.rf.up (by decide) _, by omega, rfl, fun k hk => absurd hk (Nat.not_lt_zero _), fun k hk => absurd hk (Nat.not_lt_zero _), hC.2.2.2.2⟩
theorem p_sizeX (hC : rz_CC v a R n r b l) : rz_C xs xl 3 [.ref 0] (rz_w v a g) (rz_PC v a (fun q g' v' a' => q = .inl (some (.int (Int32.ofNat n))) ∧ rz_kc v a v' a') R n r b l) := by
  refine ev_ps 2 rfl (ev_call (av := [_]) rfl rfl rfl rfl ⟨Nat.le_of_ble_eq_true rfl, rfl⟩ ⟨Nat.le_of_ble_eq_true rfl, Nat.le_of_ble_eq_true rfl⟩ (c_length) ?_)
  rintro _ _ ⟨rfl, rfl⟩
  rw [hC.2.1]
  exact ev_ret rfl rfl ⟨_, _, g, ⟨rfl, rz_kc.rf⟩, rfl, rz_cf.rf, hC⟩
theorem x_part {q : rz_Q} {y : Int32} (hq : rz_lg q) (h0 : ¬ y < 0) (h3 : ¬ 3 < y) : rz_C xs xl 58 [.int (rz_pk q), .int y] w (fun u w' => u = .inl (some (.int (rz_part q y))) ∧ w' = w) := by
  obtain ⟨k, hk, rfl⟩ := rz_le_nat (b := 3) (by decide) h0 h3
  rcases (show k = 0 ∨ k = 1 ∨ k = 2 ∨ k = 3 by omega) with rfl | rfl | rfl | rfl
  · refine ev_ps 3 rfl (ev_call (av := [_]) rfl rfl rfl rfl ⟨Nat.le_of_ble_eq_true rfl, rfl⟩ ⟨Nat.le_of_ble_eq_true rfl, Nat.le_of_ble_eq_true rfl⟩ (x_op hq) ?_)
    rintro _ _ ⟨rfl, rfl⟩
    exact ev_ret rfl rfl ⟨rfl, rfl⟩
  · refine ev_ps 3 rfl (ev_call (av := [_]) rfl rfl rfl rfl ⟨Nat.le_of_ble_eq_true rfl, rfl⟩ ⟨Nat.le_of_ble_eq_true rfl, Nat.le_of_ble_eq_true rfl⟩ (x_d hq) ?_)
    rintro _ _ ⟨rfl, rfl⟩
    exact ev_ret rfl rfl ⟨rfl, rfl⟩
  · refine ev_ps 3 rfl (ev_call (av := [_]) rfl rfl rfl rfl ⟨Nat.le_of_ble_eq_true rfl, rfl⟩ ⟨Nat.le_of_ble_eq_true rfl, Nat.le_of_ble_eq_true rfl⟩ (x_s hq) ?_)
    rintro _ _ ⟨rfl, rfl⟩
    exact ev_ret rfl rfl ⟨rfl, rfl⟩
  · refine ev_ps 3 rfl (ev_call (av := [_]) rfl rfl rfl rfl ⟨Nat.le_of_ble_eq_true rfl, rfl⟩ ⟨Nat.le_of_ble_eq_true rfl, Nat.le_of_ble_eq_true rfl⟩ (x_t hq) ?_)
    rintro _ _ ⟨rfl, rfl⟩
    exact ev_ret rfl rfl ⟨rfl, rfl⟩
theorem p_instructionX (hC : rz_CC v a R n r b l) (x0 x1 : Int32) : rz_C xs xl 57 [.ref 0, .int x0, .int x1] (rz_w v a g) (rz_PC v a (fun q g' v' a' => ((rz_ki x0 x1 n = 0 ∧ q = .inl (some (.int (rz_part (R x0.toNatClampNeg) x1)))) ∨ (rz_ki x0 x1 n = 1 ∧ q = .inr 0) ∨ (rz_ki x0 x1 n = 2 ∧ q = .inr 2)) ∧ rz_kc v a v' a') R n r b l) := by
  have hn := hC.1
  have bad : ¬ (¬ x1 < 0 ∧ ¬ 3 < x1) → rz_ki x0 x1 n = 1 := fun h => by rw [rz_ki, rz_dc_f h]; rfl
  refine ev_ps 1 rfl (ev_if (cd := .lt) rfl (fun h => ?_) (fun h => ?_))
  · exact ev_thr rfl ⟨Nat.le_of_ble_eq_true rfl, Nat.le_of_ble_eq_true rfl⟩ ⟨v, a, g, ⟨Or.inr (Or.inl ⟨bad (fun z => z.1 (rc_lt_t h)), rfl⟩), rz_kc.rf⟩, rfl, rz_cf.rf, hC⟩
  refine ev_ps 2 rfl (ev_ic (cd := .le) rfl (fun h3 => ?_) (fun h3 => ?_))
  rotate_left
  · exact ev_thr rfl ⟨Nat.le_of_ble_eq_true rfl, Nat.le_of_ble_eq_true rfl⟩ ⟨v, a, g, ⟨Or.inr (Or.inl ⟨bad (fun z => rc_le_f h3 (Int32.not_lt.mp z.2)), rfl⟩), rz_kc.rf⟩, rfl, rz_cf.rf, hC⟩
  have hw : ¬ x1 < 0 ∧ ¬ 3 < x1 := ⟨rc_lt_f h, Int32.not_lt.mpr (rc_le_t h3)⟩
  refine ev_ps 3 rfl (ev_call (av := [_, _]) rfl rfl rfl rfl ⟨Nat.le_of_ble_eq_true rfl, rfl⟩ ⟨Nat.le_of_ble_eq_true rfl, Nat.le_of_ble_eq_true rfl⟩ (y_has _) ?_)
  rintro _ _ ⟨⟨u2, hu2, hui2, rfl⟩, rfl⟩
  rw [hC.2.1] at hui2
  refine ev_if (cd := .ne) rfl (fun h2 => ?_) (fun h2 => ?_)
  · have hin := hui2.mp (hu2.resolve_left (rc_ne_t h2))
    have e : rz_ki x0 x1 n = 0 := by rw [rz_ki, rz_dc_t hw, if_pos rfl, rz_dc_t hin, if_pos rfl]
    obtain ⟨p, hp, rfl⟩ := rz_idx (by omega) hin.1 hin.2
    refine ev_ps 3 rfl (ev_call (av := [_, _]) rfl rfl rfl rfl ⟨Nat.le_of_ble_eq_true rfl, rfl⟩ ⟨Nat.le_of_ble_eq_true rfl, Nat.le_of_ble_eq_true rfl⟩ (y_codeAt (by omega)) ?_)
    rintro _ _ ⟨rfl, rfl⟩
    rw [hC.2.2.1 p hp]
    refine ev_ps 1 rfl (ev_call (av := [_, _]) rfl rfl rfl rfl ⟨Nat.le_of_ble_eq_true rfl, rfl⟩ ⟨Nat.le_of_ble_eq_true rfl, Nat.le_of_ble_eq_true rfl⟩ (x_part (hC.2.2.2.1 p hp) hw.1 hw.2) ?_)
    rintro _ _ ⟨rfl, rfl⟩
    exact ev_ret rfl rfl ⟨v, a, g, ⟨Or.inl ⟨e, by rw [rz_clamp (by omega)]⟩, rz_kc.rf⟩, rfl, rz_cf.rf, hC⟩
  · have hin : ¬ (¬ x0 < 0 ∧ x0 < Int32.ofNat n) := fun z => absurd ((rc_ne_f h2).symm.trans (hui2.mpr z)) (by decide)
    have e : rz_ki x0 x1 n = 2 := by rw [rz_ki, rz_dc_t hw, if_pos rfl, rz_dc_f hin, if_neg (by decide)]
    exact ev_thr rfl ⟨Nat.le_of_ble_eq_true rfl, Nat.le_of_ble_eq_true rfl⟩ ⟨v, a, g, ⟨Or.inr (Or.inr ⟨e, rfl⟩), rz_kc.rf⟩, rfl, rz_cf.rf, hC⟩
theorem l_instructionX (hC : rz_CC v a R n r b l) (x0 x1 : Int32) : rz_C xs xl 106 [.ref 0, .int x0, .int x1, .ref 35] (rz_w v a g) (rz_PC v a (fun q g' v' a' => q = .inl (some (.int (rz_ki x0 x1 n))) ∧ (rz_ki x0 x1 n = 0 → g' 0 = (rz_part (R x0.toNatClampNeg) x1).toInt64) ∧ rz_kc v a v' a') R n r b l) := by
  refine ev_ps 5 rfl (ev_call (av := [_, _, _]) rfl rfl rfl rfl ⟨Nat.le_of_ble_eq_true rfl, rfl⟩ ⟨Nat.le_of_ble_eq_true rfl, Nat.le_of_ble_eq_true rfl⟩ (p_instructionX hC _ _) ?_)
  rintro _ _ ⟨v2, a2, g2, ⟨hor, hk⟩, rfl, h1, h2⟩
  generalize rz_ki x0 x1 n = kk at hor ⊢
  rcases hor with ⟨rfl, rfl⟩ | ⟨rfl, rfl⟩ | ⟨rfl, rfl⟩
  · exact ev_ps 4 rfl (ev_ret rfl rfl ⟨_, _, _, ⟨rfl, fun _ => rfl, hk⟩, rfl, h1, h2⟩)
  · exact ⟨15, 4, rfl, ev_ps 1 rfl (ev_ret rfl rfl ⟨_, _, _, ⟨rfl, fun z => absurd z (by decide), hk⟩, rfl, h1, h2⟩)⟩
  · exact ⟨19, 4, rfl, ev_ps 1 rfl (ev_ret rfl rfl ⟨_, _, _, ⟨rfl, fun z => absurd z (by decide), hk⟩, rfl, h1, h2⟩)⟩
theorem p_liveX (hC : rz_CC v a R n r b l) (x : Int32) : rz_C xs xl 65 [.ref 0, .int x] (rz_w v a g) (rz_PC v a (fun q g' v' a' => ((rz_kl x n = 0 ∧ q = .inl (some (.int (rz_S R n x.toNatClampNeg)))) ∨ (rz_kl x n = 1 ∧ q = .inr 2)) ∧ rz_kc v a v' a') R n r b l) := by
  have hn := hC.1
  have bad : ¬ (¬ x < 0 ∧ ¬ Int32.ofNat n < x) → rz_kl x n = 1 := fun h => by rw [rz_kl, rz_dc_f h]; rfl
  refine ev_ps 1 rfl (ev_if (cd := .lt) rfl (fun h => ?_) (fun h => ?_))
  · exact ev_thr rfl ⟨Nat.le_of_ble_eq_true rfl, Nat.le_of_ble_eq_true rfl⟩ ⟨v, a, g, ⟨Or.inr ⟨bad (fun z => z.1 (rc_lt_t h)), rfl⟩, rz_kc.rf⟩, rfl, rz_cf.rf, hC⟩
  refine ev_ps 3 rfl (ev_call (av := [_]) rfl rfl rfl rfl ⟨Nat.le_of_ble_eq_true rfl, rfl⟩ ⟨Nat.le_of_ble_eq_true rfl, Nat.le_of_ble_eq_true rfl⟩ (c_length) ?_)
  rintro _ _ ⟨rfl, rfl⟩
  rw [hC.2.1]
  refine ev_ic (cd := .le) rfl (fun h2 => ?_) (fun h2 => ?_)
  · have hin : ¬ x < 0 ∧ ¬ Int32.ofNat n < x := ⟨rc_lt_f h, Int32.not_lt.mpr (rc_le_t h2)⟩
    obtain ⟨k, hk, rfl⟩ := rz_le_nat (by omega) hin.1 hin.2
    refine ev_ps 4 rfl (ev_call (av := [_, _]) rfl rfl rfl rfl ⟨Nat.le_of_ble_eq_true rfl, rfl⟩ ⟨Nat.le_of_ble_eq_true rfl, Nat.le_of_ble_eq_true rfl⟩ (z_findFor_6 hC.2.1 hn hC.2.2.1 hC.2.2.2.1) ?_)
    rintro _ _ ⟨rfl, f, rfl, hf⟩
    refine ev_ps 3 rfl (ev_call (av := [_, _]) rfl rfl rfl rfl ⟨Nat.le_of_ble_eq_true rfl, rfl⟩ ⟨Nat.le_of_ble_eq_true rfl, Nat.le_of_ble_eq_true rfl⟩ (z_before_6 (by omega)) ?_)
    rintro _ _ ⟨rfl, rfl⟩
    rw [show rz_ua a 3 f 3 k = rz_S R n k from hf k hk]
    exact ev_ret rfl rfl ⟨_, _, g, ⟨Or.inl ⟨by rw [rz_kl, rz_dc_t hin, if_pos rfl], by rw [rz_clamp (by omega)]⟩, rz_kc.rf.ua (by decide) f⟩, rfl, rz_cf.rf.ua (by decide) f, hC⟩
  · exact ev_thr rfl ⟨Nat.le_of_ble_eq_true rfl, Nat.le_of_ble_eq_true rfl⟩ ⟨v, a, g, ⟨Or.inr ⟨bad (fun z => rc_le_f h2 (Int32.not_lt.mp z.2)), rfl⟩, rz_kc.rf⟩, rfl, rz_cf.rf, hC⟩
theorem l_liveX (hC : rz_CC v a R n r b l) (x0 : Int32) : rz_C xs xl 109 [.ref 0, .int x0, .ref 35] (rz_w v a g) (rz_PC v a (fun q g' v' a' => q = .inl (some (.int (rz_kl x0 n))) ∧ (rz_kl x0 n = 0 → g' 0 = (rz_S R n x0.toNatClampNeg).toInt64) ∧ rz_kc v a v' a') R n r b l) := by
  refine ev_ps 4 rfl (ev_call (av := [_, _]) rfl rfl rfl rfl ⟨Nat.le_of_ble_eq_true rfl, rfl⟩ ⟨Nat.le_of_ble_eq_true rfl, Nat.le_of_ble_eq_true rfl⟩ (p_liveX hC _) ?_)
  rintro _ _ ⟨v2, a2, g2, ⟨hor, hk⟩, rfl, h1, h2⟩
  generalize rz_kl x0 n = kk at hor ⊢
  rcases hor with ⟨rfl, rfl⟩ | ⟨rfl, rfl⟩
  · exact ev_ps 4 rfl (ev_ret rfl rfl ⟨_, _, _, ⟨rfl, fun _ => rfl, hk⟩, rfl, h1, h2⟩)
  · exact ⟨13, 3, rfl, ev_ps 1 rfl (ev_ret rfl rfl ⟨_, _, _, ⟨rfl, fun z => absurd z (by decide), hk⟩, rfl, h1, h2⟩)⟩
theorem y_beginOfBlock {p : Nat} (hC : rz_CC v a R n r b l) (hp : p < n) : rz_C xs xl 67 [.ref 1, .int (Int32.ofNat p)] (rz_w v a g) (fun q w' => q = .inl (some (.int (Int32.ofNat (rz_bk R n p)))) ∧ w' = rz_w v a g) := by
  have hn := hC.1
  refine ev_ps 2 rfl ?_
  refine ev_loop (α := Nat) (fun k => k) (fun k => k ≤ p ∧ rz_bk R n p = rz_bk R n k) (fun k => [some (.ref 1), some (.int (Int32.ofNat p)), some (.int (Int32.ofNat k))]) (fun _ => []) (fun _ => rz_w v a g) ?_ p ⟨Nat.le_refl _, rfl⟩
  rintro k ⟨hk, hbk⟩ ih
  refine ev_ps 1 rfl (ev_if (cd := .le) rfl (fun h => ?_) (fun h => ?_))
  · have hk0 : k = 0 := by have := rn_le_t (k := 0) (by omega) (by omega) h; omega
    subst hk0
    exact ev_ps 1 rfl (ev_ret rfl rfl ⟨by rw [hbk]; rfl, rfl⟩)
  · obtain ⟨j, rfl⟩ : ∃ j, k = j + 1 := ⟨k - 1, by have := rn_le_f (k := 0) (by omega) (by omega) h; omega⟩
    refine ev_ps 2 rfl (ev_call (av := [_, _]) rfl rfl rfl rfl ⟨Nat.le_of_ble_eq_true rfl, rfl⟩ ⟨Nat.le_of_ble_eq_true rfl, Nat.le_of_ble_eq_true rfl⟩ (y_beginsBlock hC.2.1 hn (by omega) hC.2.2.1 hC.2.2.2.1) ?_)
    rintro _ _ ⟨⟨u, hu, hui, rfl⟩, rfl⟩
    refine ev_if (cd := .ne) rfl (fun h2 => ?_) (fun h2 => ?_)
    · have hb := hui.mp (hu.resolve_left (rc_ne_t h2))
      exact ev_ps 1 rfl (ev_ret rfl rfl ⟨by rw [hbk, rz_bk, rz_dc_t hb, if_pos rfl], rfl⟩)
    · have hb : ¬ rz_bn R n (j + 1) := fun z => absurd ((rc_ne_f h2).symm.trans (hui.mpr z)) (by decide)
      have h9 := ih j ⟨by omega, by rw [hbk, rz_bk, rz_dc_f hb, if_neg (by decide)]⟩ (by omega)
      rw [show Int32.ofNat j = Int32.ofNat (j + 1) + Int32.ofInt (-1) from by
        rw [← rz_succ j]
        exact (Int32.add_sub_cancel (Int32.ofNat j) 1).symm.trans (Int32.sub_eq_add_neg _ _)] at h9
      exact ev_ps 2 rfl h9
theorem p_blockX (hC : rz_CC v a R n r b l) (x : Int32) : rz_C xs xl 66 [.ref 0, .int x] (rz_w v a g) (rz_PC v a (fun q g' v' a' => ((rz_kb x n = 0 ∧ q = .inl (some (.int (Int32.ofNat (rz_bk R n x.toNatClampNeg))))) ∨ (rz_kb x n = 1 ∧ q = .inr 2)) ∧ rz_kc v a v' a') R n r b l) := by
  have hn := hC.1
  refine ev_ps 3 rfl (ev_call (av := [_, _]) rfl rfl rfl rfl ⟨Nat.le_of_ble_eq_true rfl, rfl⟩ ⟨Nat.le_of_ble_eq_true rfl, Nat.le_of_ble_eq_true rfl⟩ (y_has _) ?_)
  rintro _ _ ⟨⟨u2, hu2, hui2, rfl⟩, rfl⟩
  rw [hC.2.1] at hui2
  refine ev_if (cd := .ne) rfl (fun h2 => ?_) (fun h2 => ?_)
  · have hin := hui2.mp (hu2.resolve_left (rc_ne_t h2))
    have e : rz_kb x n = 0 := by rw [rz_kb, rz_dc_t hin, if_pos rfl]
    obtain ⟨p, hp, rfl⟩ := rz_idx (by omega) hin.1 hin.2
    refine ev_ps 3 rfl (ev_call (av := [_, _]) rfl rfl rfl rfl ⟨Nat.le_of_ble_eq_true rfl, rfl⟩ ⟨Nat.le_of_ble_eq_true rfl, Nat.le_of_ble_eq_true rfl⟩ (y_beginOfBlock hC hp) ?_)
    rintro _ _ ⟨rfl, rfl⟩
    exact ev_ret rfl rfl ⟨v, a, g, ⟨Or.inl ⟨e, by rw [rz_clamp (by omega)]⟩, rz_kc.rf⟩, rfl, rz_cf.rf, hC⟩
  · have hin : ¬ (¬ x < 0 ∧ x < Int32.ofNat n) := fun z => absurd ((rc_ne_f h2).symm.trans (hui2.mpr z)) (by decide)
    exact ev_thr rfl ⟨Nat.le_of_ble_eq_true rfl, Nat.le_of_ble_eq_true rfl⟩ ⟨v, a, g, ⟨Or.inr ⟨by rw [rz_kb, rz_dc_f hin]; rfl, rfl⟩, rz_kc.rf⟩, rfl, rz_cf.rf, hC⟩
theorem l_blockX (hC : rz_CC v a R n r b l) (x0 : Int32) : rz_C xs xl 110 [.ref 0, .int x0, .ref 35] (rz_w v a g) (rz_PC v a (fun q g' v' a' => q = .inl (some (.int (rz_kb x0 n))) ∧ (rz_kb x0 n = 0 → g' 0 = (Int32.ofNat (rz_bk R n x0.toNatClampNeg)).toInt64) ∧ rz_kc v a v' a') R n r b l) := by
  refine ev_ps 4 rfl (ev_call (av := [_, _]) rfl rfl rfl rfl ⟨Nat.le_of_ble_eq_true rfl, rfl⟩ ⟨Nat.le_of_ble_eq_true rfl, Nat.le_of_ble_eq_true rfl⟩ (p_blockX hC _) ?_)
  rintro _ _ ⟨v2, a2, g2, ⟨hor, hk⟩, rfl, h1, h2⟩
  generalize rz_kb x0 n = kk at hor ⊢
  rcases hor with ⟨rfl, rfl⟩ | ⟨rfl, rfl⟩
  · exact ev_ps 4 rfl (ev_ret rfl rfl ⟨_, _, _, ⟨rfl, fun _ => rfl, hk⟩, rfl, h1, h2⟩)
  · exact ⟨13, 3, rfl, ev_ps 1 rfl (ev_ret rfl rfl ⟨_, _, _, ⟨rfl, fun z => absurd z (by decide), hk⟩, rfl, h1, h2⟩)⟩
theorem p_improveX (hC : rz_CC v a R n r b l) : rz_C xs xl 8 [.ref 0] (rz_w v a g) (rz_PC v a (fun q g' v' a' => q = .inl (some (.int (Int32.ofNat n - Int32.ofNat (rz_IP 24 R n 0 r b l).2.1))) ∧ rz_kc v a v' a') (rz_IP 24 R n 0 r b l).1 (rz_IP 24 R n 0 r b l).2.1 (rz_IP 24 R n 0 r b l).2.2.1 (rz_IP 24 R n 0 r b l).2.2.2.1 (rz_IP 24 R n 0 r b l).2.2.2.2) := by
  refine ev_ps 4 rfl (ev_call (av := [_, _]) rfl rfl rfl rfl ⟨Nat.le_of_ble_eq_true rfl, rfl⟩ ⟨Nat.le_of_ble_eq_true rfl, Nat.le_of_ble_eq_true rfl⟩ (y_improveProgram hC) ?_)
  rintro _ _ ⟨v2, a2, rfl, rfl, h1, h2, h3⟩
  exact ev_ret rfl rfl ⟨v2, a2, g, ⟨rfl, h2⟩, rfl, h1, h3⟩
theorem x_counted (hC : rz_CC v a R n r b l) (x : Int32) : rz_C xs xl 49 [.ref 13, .int x] (rz_w v a g) (fun q w' => q = .inl (some (.int (rz_cn x r b l))) ∧ w' = rz_w v a g) := by
  have hr := hC.2.2.2.2.1
  have hb := hC.2.2.2.2.2.1
  have hl := hC.2.2.2.2.2.2.1
  by_cases h0 : x = 0
  · subst h0
    exact ev_ps 4 rfl (ev_ret rfl rfl ⟨by rw [rz_cn, if_pos rfl, ← hr], rfl⟩)
  by_cases h1 : x = 1
  · subst h1
    exact ev_ps 4 rfl (ev_ret rfl rfl ⟨by rw [rz_cn, if_neg (by decide), if_pos rfl, ← hb], rfl⟩)
  by_cases h2 : x = 2
  · subst h2
    exact ev_ps 4 rfl (ev_ret rfl rfl ⟨by rw [rz_cn, if_neg (by decide), if_neg (by decide), if_pos rfl, ← hl], rfl⟩)
  refine ev_ps 1 rfl (ev_tswd rfl ?_ ?_)
  · rcases Int.lt_or_le x.toInt 0 with h | h
    · exact Or.inl h
    · right
      rcases Int.lt_or_le 2 x.toInt with h' | h'
      · exact h'
      · exfalso
        have e : x = Int32.ofNat x.toInt.toNat := by
          apply Int32.toInt_inj.mp
          rw [rz_toInt (by omega)]
          omega
        have hk : x.toInt.toNat = 0 ∨ x.toInt.toNat = 1 ∨ x.toInt.toNat = 2 := by omega
        rcases hk with hk | hk | hk
        · rw [hk] at e; exact h0 e
        · rw [hk] at e; exact h1 e
        · rw [hk] at e; exact h2 e
  · exact ev_ps 1 rfl (ev_ret rfl rfl ⟨by rw [rz_cn, if_neg h0, if_neg h1, if_neg h2]; rfl, rfl⟩)
theorem p_countX (hC : rz_CC v a R n r b l) (x : Int32) : rz_C xs xl 48 [.ref 0, .int x] (rz_w v a g) (rz_PC v a (fun q g' v' a' => q = .inl (some (.int (rz_cn x r b l))) ∧ rz_kc v a v' a') R n r b l) := by
  refine ev_ps 3 rfl (ev_call (av := [_, _]) rfl rfl rfl rfl ⟨Nat.le_of_ble_eq_true rfl, rfl⟩ ⟨Nat.le_of_ble_eq_true rfl, Nat.le_of_ble_eq_true rfl⟩ (x_counted hC _) ?_)
  rintro _ _ ⟨rfl, rfl⟩
  exact ev_ret rfl rfl ⟨_, _, g, ⟨rfl, rz_kc.rf⟩, rfl, rz_cf.rf, hC⟩
theorem p_resultX (hC : rz_CC v a R n r b l) (x : Int32) : rz_C xs xl 5 [.ref 0, .int x] (rz_w v a g) (rz_PC v a (fun q _ _ _ => rz_pi q) R n r b l) := by
  refine ev_ps 3 rfl (ev_call (av := [_, _]) rfl rfl rfl rfl ⟨Nat.le_of_ble_eq_true rfl, rfl⟩ ⟨Nat.le_of_ble_eq_true rfl, Nat.le_of_ble_eq_true rfl⟩ (c_outcome _) ?_)
  rintro _ _ ⟨⟨u, rfl⟩, rfl⟩
  exact ev_ret rfl rfl ⟨_, _, g, ⟨_, rfl⟩, rfl, rz_cf.rf, hC⟩
theorem p_startX (hC : rz_CC v a R n r b l) (x y : Int32) : rz_C xs xl 59 [.ref 0, .int x, .int y] (rz_w v a g) (rz_PC v a (fun q _ _ _ => (q = .inl none ∧ rz_sok x y) ∨ (q = .inr 0 ∧ ¬ rz_sok x y)) R n r b l) := by
  refine ev_ps 2 rfl (ev_ic (cd := .lt) rfl (fun h1 => ?_) (fun h1 => ?_))
  · exact ev_thr rfl ⟨Nat.le_of_ble_eq_true rfl, Nat.le_of_ble_eq_true rfl⟩ ⟨v, a, g, Or.inr ⟨rfl, fun q => q.1 (rc_lt_t h1)⟩, rfl, rz_cf.rf, hC⟩
  · refine ev_ps 2 rfl (ev_ic (cd := .ge) rfl (fun h2 => ?_) (fun h2 => ?_))
    · exact ev_thr rfl ⟨Nat.le_of_ble_eq_true rfl, Nat.le_of_ble_eq_true rfl⟩ ⟨v, a, g, Or.inr ⟨rfl, fun q => Int32.not_le.mpr q.2.1 (rc_ge_t h2)⟩, rfl, rz_cf.rf, hC⟩
    · refine ev_ps 1 rfl (ev_if (cd := .lt) rfl (fun h3 => ?_) (fun h3 => ?_))
      · exact ev_thr rfl ⟨Nat.le_of_ble_eq_true rfl, Nat.le_of_ble_eq_true rfl⟩ ⟨v, a, g, Or.inr ⟨rfl, fun q => q.2.2.1 (rc_lt_t h3)⟩, rfl, rz_cf.rf, hC⟩
      · refine ev_ps 2 rfl (ev_ic (cd := .le) rfl (fun h4 => ?_) (fun h4 => ?_))
        · have hx : x < 12 := Int32.not_le.mp (rc_ge_f h2)
          have hok : rz_sok x y := ⟨rc_lt_f h1, hx, rc_lt_f h3, Int32.not_lt.mpr (rc_le_t h4)⟩
          obtain ⟨k, hk, rfl⟩ := rz_idx (n := 12) (by decide) (fun h => rc_lt_f h1 (Int32.lt_trans h (by decide))) hx
          refine ev_ps 4 rfl (ev_call (av := [_, _, _]) rfl rfl rfl rfl ⟨Nat.le_of_ble_eq_true rfl, rfl⟩ ⟨Nat.le_of_ble_eq_true rfl, Nat.le_of_ble_eq_true rfl⟩ (c_setStart _ hk) ?_)
          rintro _ _ ⟨rfl, r, f, rfl⟩
          exact ev_ret rfl rfl ⟨_, _, g, Or.inl ⟨rfl, hok⟩, rfl, (rz_cf.rf.up (by decide) r).ua (by decide) f, hC⟩
        · exact ev_thr rfl ⟨Nat.le_of_ble_eq_true rfl, Nat.le_of_ble_eq_true rfl⟩ ⟨v, a, g, Or.inr ⟨rfl, fun q => q.2.2.2 (Int32.not_le.mp (rc_le_f h4))⟩, rfl, rz_cf.rf, hC⟩
theorem p_runX (hC : rz_CC v a R n r b l) (x : Int32) : rz_C xs xl 61 [.ref 0, .int x] (rz_w v a g) (rz_PC v a (fun q _ _ _ => rz_pi q ∨ q = .inr 0) R n r b l) := by
  refine ev_ps 1 rfl (ev_if (cd := .lt) rfl (fun h => ?_) (fun h => ?_))
  · exact ev_thr rfl ⟨Nat.le_of_ble_eq_true rfl, Nat.le_of_ble_eq_true rfl⟩ ⟨v, a, g, Or.inr rfl, rfl, rz_cf.rf, hC⟩
  · refine ev_ps 2 rfl (ev_ic (cd := .le) rfl (fun h2 => ?_) (fun h2 => ?_))
    · obtain ⟨hn, hv, -⟩ := id hC
      obtain ⟨l, hl, rfl⟩ := rz_nat (rc_lt_f h)
      have hl5 : l ≤ 500 := rn_le_t (k := 500) hl (by omega) h2
      refine ev_ps 5 rfl (ev_call (av := [_, _, _]) rfl rfl rfl rfl ⟨Nat.le_of_ble_eq_true rfl, rfl⟩ ⟨Nat.le_of_ble_eq_true rfl, Nat.le_of_ble_eq_true rfl⟩ (c_perform hv hn hl5) ?_)
      rintro _ _ ⟨⟨u, rfl⟩, r, p, e, f, he, rfl⟩
      exact ev_ret rfl rfl ⟨_, _, g, Or.inl ⟨_, rfl⟩, rfl, (((rz_cf.rf.up (by decide) r).up (by decide) p).up (by decide) e).ua (by decide) f, hC⟩
    · exact ev_thr rfl ⟨Nat.le_of_ble_eq_true rfl, Nat.le_of_ble_eq_true rfl⟩ ⟨v, a, g, Or.inr rfl, rfl, rz_cf.rf, hC⟩
theorem p_sameX {k : Nat} (hC : rz_CC v a R k r b l) (x n y m z : Int32) : rz_C xs xl 68 [.ref 0, .int x, .int n, .int y, .int m, .int z] (rz_w v a g) (rz_PC v a (fun q _ _ _ => rz_pi q ∨ q = .inr 0 ∨ q = .inr 2 ∨ q = .inr 3) R k r b l) := by
  refine ev_ps 1 rfl (ev_if (cd := .lt) rfl (fun h1 => ?_) (fun h1 => ?_))
  · exact ev_thr rfl ⟨Nat.le_of_ble_eq_true rfl, Nat.le_of_ble_eq_true rfl⟩ ⟨v, a, g, Or.inr (Or.inl rfl), rfl, rz_cf.rf, hC⟩
  refine ev_ps 2 rfl (ev_ic (cd := .gt) rfl (fun h2 => ?_) (fun h2 => ?_))
  · exact ev_thr rfl ⟨Nat.le_of_ble_eq_true rfl, Nat.le_of_ble_eq_true rfl⟩ ⟨v, a, g, Or.inr (Or.inl rfl), rfl, rz_cf.rf, hC⟩
  refine ev_ps 1 rfl (ev_if (cd := .lt) rfl (fun h3 => ?_) (fun h3 => ?_))
  · exact ev_thr rfl ⟨Nat.le_of_ble_eq_true rfl, Nat.le_of_ble_eq_true rfl⟩ ⟨v, a, g, Or.inr (Or.inl rfl), rfl, rz_cf.rf, hC⟩
  refine ev_ps 2 rfl (ev_ic (cd := .le) rfl (fun h4 => ?_) (fun h4 => ?_))
  rotate_left
  · exact ev_thr rfl ⟨Nat.le_of_ble_eq_true rfl, Nat.le_of_ble_eq_true rfl⟩ ⟨v, a, g, Or.inr (Or.inl rfl), rfl, rz_cf.rf, hC⟩
  refine ev_ps 1 rfl (ev_if (cd := .lt) rfl (fun h5 => ?_) (fun h5 => ?_))
  · exact ev_thr rfl ⟨Nat.le_of_ble_eq_true rfl, Nat.le_of_ble_eq_true rfl⟩ ⟨v, a, g, Or.inr (Or.inl rfl), rfl, rz_cf.rf, hC⟩
  refine ev_ps 2 rfl (ev_ic (cd := .le) rfl (fun h6 => ?_) (fun h6 => ?_))
  rotate_left
  · exact ev_thr rfl ⟨Nat.le_of_ble_eq_true rfl, Nat.le_of_ble_eq_true rfl⟩ ⟨v, a, g, Or.inr (Or.inl rfl), rfl, rz_cf.rf, hC⟩
  obtain ⟨hk, hv, -⟩ := id hC
  refine ev_ps 4 rfl (ev_call (av := [_, _, _]) rfl rfl rfl rfl ⟨Nat.le_of_ble_eq_true rfl, rfl⟩ ⟨Nat.le_of_ble_eq_true rfl, Nat.le_of_ble_eq_true rfl⟩ (c_hasAll _ _) ?_)
  rintro _ _ ⟨⟨u1, hu1, hP1, rfl⟩, rfl⟩
  refine ev_if (cd := .eq) rfl (fun h7 => ?_) (fun h7 => ?_)
  · exact ev_thr rfl ⟨Nat.le_of_ble_eq_true rfl, Nat.le_of_ble_eq_true rfl⟩ ⟨v, a, g, Or.inr (Or.inr (Or.inl rfl)), rfl, rz_cf.rf, hC⟩
  have o1 := rz_okr_of hv hk (rc_lt_f h1) (rc_gt_f h2) (hP1 (hu1.resolve_left (rc_eq_f h7)))
  refine ev_ps 4 rfl (ev_call (av := [_, _, _]) rfl rfl rfl rfl ⟨Nat.le_of_ble_eq_true rfl, rfl⟩ ⟨Nat.le_of_ble_eq_true rfl, Nat.le_of_ble_eq_true rfl⟩ (c_hasAll _ _) ?_)
  rintro _ _ ⟨⟨u2, hu2, hP2, rfl⟩, rfl⟩
  refine ev_if (cd := .ne) rfl (fun h8 => ?_) (fun h8 => ?_)
  rotate_left
  · exact ev_thr rfl ⟨Nat.le_of_ble_eq_true rfl, Nat.le_of_ble_eq_true rfl⟩ ⟨v, a, g, Or.inr (Or.inr (Or.inl rfl)), rfl, rz_cf.rf, hC⟩
  have o2 := rz_okr_of hv hk (rc_lt_f h3) (Int32.not_lt.mpr (rc_le_t h4)) (hP2 (hu2.resolve_left (rc_ne_t h8)))
  refine ev_ps 4 rfl (ev_call (av := [_, _, _]) rfl rfl rfl rfl ⟨Nat.le_of_ble_eq_true rfl, rfl⟩ ⟨Nat.le_of_ble_eq_true rfl, Nat.le_of_ble_eq_true rfl⟩ (c_allPlainX o1) ?_)
  rintro _ _ ⟨⟨u3, hu3, -, rfl⟩, rfl⟩
  refine ev_if (cd := .eq) rfl (fun h9 => ?_) (fun h9 => ?_)
  · exact ev_thr rfl ⟨Nat.le_of_ble_eq_true rfl, Nat.le_of_ble_eq_true rfl⟩ ⟨v, a, g, Or.inr (Or.inr (Or.inr rfl)), rfl, rz_cf.rf, hC⟩
  refine ev_ps 4 rfl (ev_call (av := [_, _, _]) rfl rfl rfl rfl ⟨Nat.le_of_ble_eq_true rfl, rfl⟩ ⟨Nat.le_of_ble_eq_true rfl, Nat.le_of_ble_eq_true rfl⟩ (c_allPlainX o2) ?_)
  rintro _ _ ⟨⟨u4, hu4, -, rfl⟩, rfl⟩
  refine ev_if (cd := .ne) rfl (fun h10 => ?_) (fun h10 => ?_)
  rotate_left
  · exact ev_thr rfl ⟨Nat.le_of_ble_eq_true rfl, Nat.le_of_ble_eq_true rfl⟩ ⟨v, a, g, Or.inr (Or.inr (Or.inr rfl)), rfl, rz_cf.rf, hC⟩
  refine ev_ps 9 rfl (ev_call (av := [_, _, _, _, _, _, _]) rfl rfl rfl rfl ⟨Nat.le_of_ble_eq_true rfl, rfl⟩ ⟨Nat.le_of_ble_eq_true rfl, Nat.le_of_ble_eq_true rfl⟩ (c_agreeInProgram _ o1 o2) ?_)
  rintro _ _ ⟨⟨u5, hu5, rfl⟩, k1, k2, d, f1, f2, hk1, hk2, rfl⟩
  exact ev_ret rfl (show (if u5 = 0 ∨ u5 = 1 then some (some (Value.int u5)) else none) = _ from if_pos hu5) ⟨_, _, g, Or.inl ⟨_, rfl⟩, rfl, ((((rz_cf.rf.up (by decide) _).up (by decide) _).up (by decide) d).ua (by decide) f1).ua (by decide) f2, hC⟩
theorem l_runX (hC : rz_CC v a R n r b l) (x0 : Int32) : rz_C xs xl 108 [.ref 0, .int x0, .ref 35] (rz_w v a g) (rz_PC v a (fun q _ _ _ => rz_pi q) R n r b l) := by
  refine ev_ps 4 rfl (ev_call (av := [_, _]) rfl rfl rfl rfl ⟨Nat.le_of_ble_eq_true rfl, rfl⟩ ⟨Nat.le_of_ble_eq_true rfl, Nat.le_of_ble_eq_true rfl⟩ (p_runX hC _) ?_)
  rintro _ _ ⟨v2, a2, g2, ⟨u, rfl⟩ | rfl, rfl, h1, h2⟩
  · exact ev_ps 4 rfl (ev_ret rfl rfl ⟨_, _, _, ⟨_, rfl⟩, rfl, h1, h2⟩)
  · exact ⟨13, 3, rfl, ev_ps 1 rfl (ev_ret rfl rfl ⟨_, _, _, ⟨_, rfl⟩, rfl, h1, h2⟩)⟩
theorem l_sameX (hC : rz_CC v a R n r b l) (x0 x1 x2 x3 x4 : Int32) : rz_C xs xl 111 [.ref 0, .int x0, .int x1, .int x2, .int x3, .int x4, .ref 35] (rz_w v a g) (rz_PC v a (fun q _ _ _ => rz_pi q) R n r b l) := by
  refine ev_ps 8 rfl (ev_call (av := [_, _, _, _, _, _]) rfl rfl rfl rfl ⟨Nat.le_of_ble_eq_true rfl, rfl⟩ ⟨Nat.le_of_ble_eq_true rfl, Nat.le_of_ble_eq_true rfl⟩ (p_sameX hC _ _ _ _ _) ?_)
  rintro _ _ ⟨v2, a2, g2, ⟨u, rfl⟩ | rfl | rfl | rfl, rfl, h1, h2⟩
  · refine ev_if (cd := .eq) rfl (fun h => ?_) (fun h => ?_)
    · exact ev_ps 4 rfl (ev_ret rfl rfl ⟨_, _, _, ⟨_, rfl⟩, rfl, h1, h2⟩)
    · exact ev_ps 5 rfl (ev_ret rfl rfl ⟨_, _, _, ⟨_, rfl⟩, rfl, h1, h2⟩)
  · exact ⟨28, 7, rfl, ev_ps 1 rfl (ev_ret rfl rfl ⟨_, _, _, ⟨_, rfl⟩, rfl, h1, h2⟩)⟩
  · exact ⟨32, 7, rfl, ev_ps 1 rfl (ev_ret rfl rfl ⟨_, _, _, ⟨_, rfl⟩, rfl, h1, h2⟩)⟩
  · exact ⟨36, 7, rfl, ev_ps 1 rfl (ev_ret rfl rfl ⟨_, _, _, ⟨_, rfl⟩, rfl, h1, h2⟩)⟩
theorem l_startX (hC : rz_CC v a R n r b l) (x y : Int32) : rz_C xs xl 107 [.ref 0, .int x, .int y] (rz_w v a g) (rz_PC v a (fun q _ _ _ => rz_pi q) R n r b l) := by
  refine ev_ps 3 rfl (ev_call (av := [_, _, _]) rfl rfl rfl rfl ⟨Nat.le_of_ble_eq_true rfl, rfl⟩ ⟨Nat.le_of_ble_eq_true rfl, Nat.le_of_ble_eq_true rfl⟩ (p_startX hC _ _) ?_)
  rintro _ _ ⟨v2, a2, g2, ⟨rfl, hs⟩ | ⟨rfl, hs⟩, rfl, h1, h2⟩
  · exact ev_ps 2 rfl (ev_ret rfl rfl ⟨_, _, _, ⟨_, rfl⟩, rfl, h1, h2⟩)
  · exact ⟨10, 3, rfl, ev_ps 1 rfl (ev_ret rfl rfl ⟨_, _, _, ⟨_, rfl⟩, rfl, h1, h2⟩)⟩
end RZZ1
/-! the reference's methods, exactly -/
section RZZ2
variable {xs : Nat → Int32} {xl : Nat} {v : Nat → Int32} {a : Nat → Nat → Int32} {g : Nat → Int64} {R : Nat → rz_Q} {n r b l : Nat}
theorem rz_sub1i {x : Int32} (hn : n ≤ 24) : (¬ x < 0 ∧ ¬ Int32.ofNat n - 1 < x) ↔ (¬ x < 0 ∧ x < Int32.ofNat n) := by
  constructor
  · rintro ⟨h0, h1⟩
    obtain ⟨k, hk, rfl⟩ := rz_sub1 hn h0 h1
    exact ⟨h0, (rz_lt_iff (by omega) (by omega)).mpr hk⟩
  · rintro ⟨h0, h1⟩
    obtain ⟨k, hk, rfl⟩ := rz_idx (by omega) h0 h1
    refine ⟨h0, ?_⟩
    rw [show Int32.ofNat n - 1 = Int32.ofNat (n - 1) from rz_sub (n := 1) (by omega), rz_lt_iff (by omega) (by omega)]
    omega
theorem m_addX (hR : rz_RR v a R n r b l) (x0 x1 x2 x3 : Int32) : rz_C xs xl 71 [.ref 25, .int x0, .int x1, .int x2, .int x3] (rz_w v a g) (rz_PM v a g (fun q v' a' => q = .inl (some (.int (if rz_ka x0 x1 x2 x3 n = 0 then Int32.ofNat n else 0))) ∧ v' 20 = rz_ka x0 x1 x2 x3 n ∧ rz_ks v a v' a') (rz_Ra R n (rz_qq x0 x1 x2 x3) (rz_ka x0 x1 x2 x3 n)) (rz_nag n (rz_ka x0 x1 x2 x3 n)) r b l) := by
  have no : ∀ c : Int32, c ≠ 0 → rz_ka x0 x1 x2 x3 n = c → rz_E xs xl 71 30 [some (.ref 25), some (.int x0), some (.int x1), some (.int x2), some (.int x3)] [.int c, .ref 25] (rz_w v a g) 0 0 (rz_PM v a g (fun q v' a' => q = .inl (some (.int (if rz_ka x0 x1 x2 x3 n = 0 then Int32.ofNat n else 0))) ∧ v' 20 = rz_ka x0 x1 x2 x3 n ∧ rz_ks v a v' a') (rz_Ra R n (rz_qq x0 x1 x2 x3) (rz_ka x0 x1 x2 x3 n)) (rz_nag n (rz_ka x0 x1 x2 x3 n)) r b l) := by
    intro c hc e
    rw [e]
    refine ev_ps 1 rfl (ev_w (w2 := rz_w (rz_up v 20 c) a g) rfl ?_)
    refine ev_ps 2 rfl (ev_if (cd := .eq) rfl (fun h => absurd (rc_eq_t h) hc) (fun h => ?_))
    refine ev_ps 1 rfl (ev_ret rfl rfl ⟨_, _, rfl, ⟨by rw [if_neg hc]; rfl, rfl, rz_ks.rf⟩, rz_mf.rf.up (by omega) _, ?_⟩)
    rw [rz_Ra, if_neg hc, rz_nag, if_neg hc]
    exact hR
  refine ev_ps 5 rfl (ev_call (av := [_, _, _, _]) rfl rfl rfl rfl ⟨Nat.le_of_ble_eq_true rfl, rfl⟩ ⟨Nat.le_of_ble_eq_true rfl, Nat.le_of_ble_eq_true rfl⟩ (m_isInstructionX _ _ _ _) ?_)
  rintro _ _ ⟨⟨u1, hu1, hui, rfl⟩, rfl⟩
  refine ev_if (cd := .ne) rfl (fun e1 => ?_) (fun e1 => ?_)
  rotate_left
  · have hno : ¬ rz_okq x0 x1 x2 x3 := fun z => absurd ((rc_ne_f e1).symm.trans (hui.mpr z)) (by decide)
    exact ev_ps 2 rfl (no 1 (by decide) (by rw [rz_ka, rz_dc_f hno]; rfl))
  have hok := hui.mp (hu1.resolve_left (rc_ne_t e1))
  have hn := hR.1
  have hv := hR.2.1
  refine ev_ps 3 rfl (ev_ic (cd := .ne) rfl (fun e2 => ?_) (fun e2 => ?_))
  rotate_left
  · have h24 : ¬ n < 24 := fun z => by
      have e3 := rc_ne_f e2
      rw [hv] at e3
      have := (rz_eq_iff (k := 24) (by omega) (by omega)).mp e3
      omega
    exact ev_ps 2 rfl (no 2 (by decide) (by rw [rz_ka, rz_dc_t hok, if_pos rfl, if_neg h24]))
  have hn24 : n < 24 := by
    rcases Nat.lt_or_ge n 24 with h | h
    · exact h
    · exact absurd (by rw [hv]; exact congrArg Int32.ofNat (by omega : n = 24)) (rc_ne_t e2)
  have e : rz_ka x0 x1 x2 x3 n = 0 := by rw [rz_ka, rz_dc_t hok, if_pos rfl, if_pos hn24]
  rw [e]
  obtain ⟨hlg, q1, q2, q3, q4⟩ := rz_okq_lg hok
  refine ev_ps 2 rfl (ev_w (w2 := rz_w (rz_up v 20 0) a g) rfl ?_)
  refine ev_ps 2 rfl (ev_if (cd := .eq) rfl (fun h => ?_) (fun h => absurd rfl (rc_eq_f h)))
  refine ev_ps 7 rfl ?_
  refine ev_call (av := [.ref 25, .int (Int32.ofNat n), .int x0, .int x1, .int x2, .int x3]) rfl (by rw [← hv]; rfl) rfl rfl ⟨Nat.le_of_ble_eq_true rfl, rfl⟩ ⟨Nat.le_of_ble_eq_true rfl, Nat.le_of_ble_eq_true rfl⟩ (m_put (by omega) _ _ _ _) ?_
  rintro _ _ ⟨rfl, rfl⟩
  refine ev_ps 6 rfl (ev_w (w2 := rz_w (rz_up (rz_up v 20 0) 21 (Int32.ofNat (n + 1))) (rz_pt a n x0 x1 x2 x3) g) (by rw [← rz_succ n, ← hv]; rfl) ?_)
  refine ev_ps 4 rfl (ev_ret rfl rfl ⟨_, _, rfl, ⟨?_, rfl, rz_ks.rf⟩, rz_pt_mf ((rz_mf.rf.up (by omega) _).up (by omega) _), rz_RR.add (v := rz_up v 20 0) hR hn24 hlg ⟨q1, q2, q3, q4⟩⟩)
  have e9 : Int32.ofNat (n + 1) - 1 = Int32.ofNat n := rz_sub (k := n + 1) (n := 1) (by omega)
  rw [if_pos rfl]
  exact congrArg (fun z => (Sum.inl (some (Value.int z)) : rz_R)) e9
theorem m_replaceX (hR : rz_RR v a R n r b l) (x0 x1 x2 x3 x4 : Int32) : rz_C xs xl 75 [.ref 25, .int x0, .int x1, .int x2, .int x3, .int x4] (rz_w v a g) (rz_PM v a g (fun q v' a' => q = .inl none ∧ v' 20 = rz_kr x0 x1 x2 x3 x4 n ∧ rz_ks v a v' a') (rz_Ra R x0.toNatClampNeg (rz_qq x1 x2 x3 x4) (rz_kr x0 x1 x2 x3 x4 n)) n r b l) := by
  have no : ∀ c : Int32, c ≠ 0 → rz_kr x0 x1 x2 x3 x4 n = c → rz_E xs xl 75 36 [some (.ref 25), some (.int x0), some (.int x1), some (.int x2), some (.int x3), some (.int x4)] [.int c, .ref 25] (rz_w v a g) 0 0 (rz_PM v a g (fun q v' a' => q = .inl none ∧ v' 20 = rz_kr x0 x1 x2 x3 x4 n ∧ rz_ks v a v' a') (rz_Ra R x0.toNatClampNeg (rz_qq x1 x2 x3 x4) (rz_kr x0 x1 x2 x3 x4 n)) n r b l) := by
    intro c hc e
    rw [e]
    refine ev_ps 1 rfl (ev_w (w2 := rz_w (rz_up v 20 c) a g) rfl ?_)
    refine ev_ps 2 rfl (ev_if (cd := .ne) rfl (fun h => ?_) (fun h => absurd (rc_ne_f h) hc))
    refine ev_ret rfl rfl ⟨_, _, rfl, ⟨rfl, rfl, rz_ks.rf⟩, rz_mf.rf.up (by omega) _, ?_⟩
    rw [rz_Ra, if_neg hc]
    exact hR
  refine ev_ps 5 rfl (ev_call (av := [_, _, _, _]) rfl rfl rfl rfl ⟨Nat.le_of_ble_eq_true rfl, rfl⟩ ⟨Nat.le_of_ble_eq_true rfl, Nat.le_of_ble_eq_true rfl⟩ (m_isInstructionX _ _ _ _) ?_)
  rintro _ _ ⟨⟨u1, hu1, hui, rfl⟩, rfl⟩
  refine ev_if (cd := .ne) rfl (fun e1 => ?_) (fun e1 => ?_)
  rotate_left
  · have hno : ¬ rz_okq x1 x2 x3 x4 := fun z => absurd ((rc_ne_f e1).symm.trans (hui.mpr z)) (by decide)
    exact ev_ps 2 rfl (no 1 (by decide) (by rw [rz_kr, rz_dc_f hno]; rfl))
  have hok := hui.mp (hu1.resolve_left (rc_ne_t e1))
  have hn := hR.1
  have hv := hR.2.1
  refine ev_ps 6 rfl (ev_call (av := [_, _, _]) rfl rfl rfl rfl ⟨Nat.le_of_ble_eq_true rfl, rfl⟩ ⟨Nat.le_of_ble_eq_true rfl, Nat.le_of_ble_eq_true rfl⟩ (m_in _ _ _) ?_)
  rintro _ _ ⟨⟨u2, h2, rfl⟩, rfl⟩
  have h2' : (u2 = 1 ∧ ¬ x0 < 0 ∧ ¬ v 21 - 1 < x0) ∨ (u2 = 0 ∧ ¬ (¬ x0 < 0 ∧ ¬ v 21 - 1 < x0)) := h2
  rw [hv, rz_sub1i hn] at h2'
  refine ev_if (cd := .ne) rfl (fun e2 => ?_) (fun e2 => ?_)
  rotate_left
  · have hin : ¬ (¬ x0 < 0 ∧ x0 < Int32.ofNat n) := h2'.elim (fun z => absurd ((rc_ne_f e2).symm.trans z.1) (by decide)) (fun z => z.2)
    exact ev_ps 2 rfl (no 2 (by decide) (by rw [rz_kr, rz_dc_t hok, if_pos rfl, rz_dc_f hin, if_neg (by decide)]))
  have hin := (h2'.resolve_right (fun q => rc_ne_t e2 q.1)).2
  have e : rz_kr x0 x1 x2 x3 x4 n = 0 := by rw [rz_kr, rz_dc_t hok, if_pos rfl, rz_dc_t hin, if_pos rfl]
  rw [e]
  obtain ⟨hlg, q1, q2, q3, q4⟩ := rz_okq_lg hok
  obtain ⟨k, hk, rfl⟩ := rz_idx (by omega) hin.1 hin.2
  refine ev_ps 2 rfl (ev_w (w2 := rz_w (rz_up v 20 0) a g) rfl ?_)
  refine ev_ps 2 rfl (ev_if (cd := .ne) rfl (fun h => absurd rfl (rc_ne_t h)) (fun h => ?_))
  refine ev_ps 6 rfl (ev_call (av := [_, _, _, _, _, _]) rfl rfl rfl rfl ⟨Nat.le_of_ble_eq_true rfl, rfl⟩ ⟨Nat.le_of_ble_eq_true rfl, Nat.le_of_ble_eq_true rfl⟩ (m_put (by omega) _ _ _ _) ?_)
  rintro _ _ ⟨rfl, rfl⟩
  refine ev_ret rfl rfl ⟨_, _, rfl, ⟨rfl, rfl, rz_ks.rf⟩, rz_pt_mf (rz_mf.rf.up (by omega) _), ?_⟩
  rw [rz_clamp (k := k) (by omega)]
  exact rz_RR.put (v := rz_up v 20 0) hR hlg ⟨q1, q2, q3, q4⟩
theorem m_clearX (hR : rz_RR v a R n r b l) : rz_C xs xl 76 [.ref 25] (rz_w v a g) (rz_PM v a g (fun q v' a' => q = .inl (some (.int (Int32.ofNat n))) ∧ rz_ks v a v' a') R 0 r b l) := by
  refine ev_ps 3 rfl (ev_w (w2 := rz_w (rz_up v 20 0) a g) rfl ?_)
  refine ev_ps 6 rfl (ev_w (w2 := rz_w (rz_up (rz_up v 20 0) 21 0) a g) rfl ?_)
  refine ev_ps 1 rfl (ev_ret rfl rfl ⟨_, _, rfl, ⟨?_, rz_ks.rf⟩, (rz_mf.rf.up (by omega) _).up (by omega) _, by omega, rfl, fun k hk => absurd hk (Nat.not_lt_zero _), fun k hk => absurd hk (Nat.not_lt_zero _), hR.2.2.2.2⟩)
  exact congrArg (fun z => (Sum.inl (some (Value.int z)) : rz_R)) hR.2.1
theorem m_sizeX (hR : rz_RR v a R n r b l) : rz_C xs xl 77 [.ref 25] (rz_w v a g) (rz_PM v a g (fun q v' a' => q = .inl (some (.int (Int32.ofNat n))) ∧ rz_ks v a v' a') R n r b l) := by
  refine ev_ps 3 rfl (ev_w (w2 := rz_w (rz_up v 20 0) a g) rfl ?_)
  refine ev_ps 2 rfl (ev_ret rfl rfl ⟨_, _, rfl, ⟨?_, rz_ks.rf⟩, rz_mf.rf.up (by omega) _, hR⟩)
  exact congrArg (fun z => (Sum.inl (some (Value.int z)) : rz_R)) hR.2.1
theorem m_countX (hR : rz_RR v a R n r b l) (x : Int32) : rz_C xs xl 103 [.ref 25, .int x] (rz_w v a g) (rz_PM v a g (fun q v' a' => q = .inl (some (.int (rz_cn x r b l))) ∧ rz_ks v a v' a') R n r b l) := by
  obtain ⟨-, -, -, -, -, -, -, hr, hb, hl⟩ := id hR
  refine ev_ps 3 rfl (ev_w (w2 := rz_w (rz_up v 20 0) a g) rfl ?_)
  refine ev_ps 1 rfl (ev_if (cd := .ne) rfl (fun h1 => ?_) (fun h1 => ?_))
  · refine ev_ps 2 rfl (ev_ic (cd := .ne) rfl (fun h2 => ?_) (fun h2 => ?_))
    · refine ev_ps 2 rfl (ev_ic (cd := .ne) rfl (fun h3 => ?_) (fun h3 => ?_))
      · exact ev_ps 1 rfl (ev_ret rfl rfl ⟨_, _, rfl, ⟨by rw [rz_cn, if_neg (show ¬ x = 0 from rc_ne_t h1), if_neg (show ¬ x = 1 from rc_ne_t h2), if_neg (show ¬ x = 2 from rc_ne_t h3)]; rfl, rz_ks.rf⟩, rz_mf.rf.up (by omega) _, hR⟩)
      · exact ev_ps 3 rfl (ev_ret rfl rfl ⟨_, _, rfl, ⟨by rw [rz_cn, if_neg (show ¬ x = 0 from rc_ne_t h1), if_neg (show ¬ x = 1 from rc_ne_t h2), if_pos (show x = 2 from rc_ne_f h3), ← hl]; rfl, rz_ks.rf⟩, rz_mf.rf.up (by omega) _, hR⟩)
    · exact ev_ps 3 rfl (ev_ret rfl rfl ⟨_, _, rfl, ⟨by rw [rz_cn, if_neg (show ¬ x = 0 from rc_ne_t h1), if_pos (show x = 1 from rc_ne_f h2), ← hb]; rfl, rz_ks.rf⟩, rz_mf.rf.up (by omega) _, hR⟩)
  · exact ev_ps 3 rfl (ev_ret rfl rfl ⟨_, _, rfl, ⟨by rw [rz_cn, if_pos (show x = 0 from rc_ne_f h1), ← hr]; rfl, rz_ks.rf⟩, rz_mf.rf.up (by omega) _, hR⟩)
theorem m_instructionX (hR : rz_RR v a R n r b l) (x0 x1 : Int32) : rz_C xs xl 78 [.ref 25, .int x0, .int x1] (rz_w v a g) (rz_PM v a g (fun q v' a' => q = .inl (some (.int (if rz_ki x0 x1 n = 0 then rz_part (R x0.toNatClampNeg) x1 else 0))) ∧ v' 20 = rz_ki x0 x1 n ∧ rz_ks v a v' a') R n r b l) := by
  have no : ∀ c : Int32, c ≠ 0 → rz_ki x0 x1 n = c → rz_E xs xl 78 33 [some (.ref 25), some (.int x0), some (.int x1)] [.int c, .ref 25] (rz_w v a g) 0 0 (rz_PM v a g (fun q v' a' => q = .inl (some (.int (if rz_ki x0 x1 n = 0 then rz_part (R x0.toNatClampNeg) x1 else 0))) ∧ v' 20 = rz_ki x0 x1 n ∧ rz_ks v a v' a') R n r b l) := by
    intro c hc e
    rw [e]
    refine ev_ps 1 rfl (ev_w (w2 := rz_w (rz_up v 20 c) a g) rfl ?_)
    refine ev_ps 2 rfl (ev_if (cd := .eq) rfl (fun h => absurd (rc_eq_t h) hc) (fun h => ?_))
    exact ev_ps 1 rfl (ev_ret rfl rfl ⟨_, _, rfl, ⟨by rw [if_neg hc]; rfl, rfl, rz_ks.rf⟩, rz_mf.rf.up (by omega) _, hR⟩)
  have hn := hR.1
  have hv := hR.2.1
  refine ev_ps 4 rfl (ev_call (av := [_, _, _]) rfl rfl rfl rfl ⟨Nat.le_of_ble_eq_true rfl, rfl⟩ ⟨Nat.le_of_ble_eq_true rfl, Nat.le_of_ble_eq_true rfl⟩ (m_in _ _ _) ?_)
  rintro _ _ ⟨⟨u1, h1, rfl⟩, rfl⟩
  refine ev_if (cd := .ne) rfl (fun e1 => ?_) (fun e1 => ?_)
  rotate_left
  · have hno : ¬ (¬ x1 < 0 ∧ ¬ 3 < x1) := h1.elim (fun z => absurd ((rc_ne_f e1).symm.trans z.1) (by decide)) (fun z => z.2)
    exact ev_ps 2 rfl (no 1 (by decide) (by rw [rz_ki, rz_dc_f hno]; rfl))
  have hw : ¬ x1 < 0 ∧ ¬ 3 < x1 := (h1.resolve_right (fun q => rc_ne_t e1 q.1)).2
  refine ev_ps 6 rfl (ev_call (av := [_, _, _]) rfl rfl rfl rfl ⟨Nat.le_of_ble_eq_true rfl, rfl⟩ ⟨Nat.le_of_ble_eq_true rfl, Nat.le_of_ble_eq_true rfl⟩ (m_in _ _ _) ?_)
  rintro _ _ ⟨⟨u2, h2, rfl⟩, rfl⟩
  have h2' : (u2 = 1 ∧ ¬ x0 < 0 ∧ ¬ v 21 - 1 < x0) ∨ (u2 = 0 ∧ ¬ (¬ x0 < 0 ∧ ¬ v 21 - 1 < x0)) := h2
  rw [hv, rz_sub1i hn] at h2'
  refine ev_if (cd := .ne) rfl (fun e2 => ?_) (fun e2 => ?_)
  rotate_left
  · have hin : ¬ (¬ x0 < 0 ∧ x0 < Int32.ofNat n) := h2'.elim (fun z => absurd ((rc_ne_f e2).symm.trans z.1) (by decide)) (fun z => z.2)
    exact ev_ps 2 rfl (no 2 (by decide) (by rw [rz_ki, rz_dc_t hw, if_pos rfl, rz_dc_f hin, if_neg (by decide)]))
  have hin := (h2'.resolve_right (fun q => rc_ne_t e2 q.1)).2
  have e : rz_ki x0 x1 n = 0 := by rw [rz_ki, rz_dc_t hw, if_pos rfl, rz_dc_t hin, if_pos rfl]
  rw [e]
  obtain ⟨k, hk, rfl⟩ := rz_idx (by omega) hin.1 hin.2
  obtain ⟨q1, q2, q3, q4⟩ := hR.2.2.1 k hk
  have ek := rz_clamp (k := k) (by omega)
  refine ev_ps 2 rfl (ev_w (w2 := rz_w (rz_up v 20 0) a g) rfl ?_)
  refine ev_ps 2 rfl (ev_if (cd := .eq) rfl (fun h => ?_) (fun h => absurd rfl (rc_eq_f h)))
  refine ev_ps 1 rfl (ev_if (cd := .ne) rfl (fun h1 => ?_) (fun h1 => ?_))
  · refine ev_ps 2 rfl (ev_ic (cd := .ne) rfl (fun h2 => ?_) (fun h2 => ?_))
    · refine ev_ps 2 rfl (ev_ic (cd := .ne) rfl (fun h3 => ?_) (fun h3 => ?_))
      · refine ev_ps 3 rfl (ev_ald rfl rfl (rz_in (by omega) (by decide)) ?_)
        rw [ek, q4]
        exact ev_ret rfl rfl ⟨_, _, rfl, ⟨by rw [if_pos rfl, rz_part, if_neg (show ¬ x1 = 0 from rc_ne_t h1), if_neg (show ¬ x1 = 1 from rc_ne_t h2), if_neg (show ¬ x1 = 2 from rc_ne_t h3)], rfl, rz_ks.rf⟩, rz_mf.rf.up (by omega) _, hR⟩
      · refine ev_ps 3 rfl (ev_ald rfl rfl (rz_in (by omega) (by decide)) ?_)
        rw [ek, q3]
        exact ev_ps 1 rfl (ev_ret rfl rfl ⟨_, _, rfl, ⟨by rw [if_pos rfl, rz_part, if_neg (show ¬ x1 = 0 from rc_ne_t h1), if_neg (show ¬ x1 = 1 from rc_ne_t h2), if_pos (show x1 = 2 from rc_ne_f h3)], rfl, rz_ks.rf⟩, rz_mf.rf.up (by omega) _, hR⟩)
    · refine ev_ps 3 rfl (ev_ald rfl rfl (rz_in (by omega) (by decide)) ?_)
      rw [ek, q2]
      exact ev_ps 1 rfl (ev_ret rfl rfl ⟨_, _, rfl, ⟨by rw [if_pos rfl, rz_part, if_neg (show ¬ x1 = 0 from rc_ne_t h1), if_pos (show x1 = 1 from rc_ne_f h2)], rfl, rz_ks.rf⟩, rz_mf.rf.up (by omega) _, hR⟩)
  · refine ev_ps 3 rfl (ev_ald rfl rfl (rz_in (by omega) (by decide)) ?_)
    rw [ek, q1]
    exact ev_ps 1 rfl (ev_ret rfl rfl ⟨_, _, rfl, ⟨by rw [if_pos rfl, rz_part, if_pos (show x1 = 0 from rc_ne_f h1)], rfl, rz_ks.rf⟩, rz_mf.rf.up (by omega) _, hR⟩)
theorem m_liveX (hR : rz_RR v a R n r b l) (x : Int32) : rz_C xs xl 85 [.ref 25, .int x] (rz_w v a g) (rz_PM v a g (fun q v' a' => q = .inl (some (.int (if rz_kl x n = 0 then rz_S R n x.toNatClampNeg else 0))) ∧ v' 20 = rz_kl x n ∧ rz_ks v a v' a') R n r b l) := by
  have hn := hR.1
  have hv := hR.2.1
  refine ev_ps 5 rfl (ev_call (av := [_, _, _]) rfl rfl rfl rfl ⟨Nat.le_of_ble_eq_true rfl, rfl⟩ ⟨Nat.le_of_ble_eq_true rfl, Nat.le_of_ble_eq_true rfl⟩ (m_in _ _ _) ?_)
  rintro _ _ ⟨⟨u2, h2, rfl⟩, rfl⟩
  have h2' : (u2 = 1 ∧ ¬ x < 0 ∧ ¬ v 21 < x) ∨ (u2 = 0 ∧ ¬ (¬ x < 0 ∧ ¬ v 21 < x)) := h2
  rw [hv] at h2'
  refine ev_if (cd := .eq) rfl (fun e2 => ?_) (fun e2 => ?_)
  · have hin : ¬ (¬ x < 0 ∧ ¬ Int32.ofNat n < x) := h2'.elim (fun z => absurd ((rc_eq_t e2).symm.trans z.1) (by decide)) (fun z => z.2)
    have e : rz_kl x n = 1 := by rw [rz_kl, rz_dc_f hin]; rfl
    rw [e]
    refine ev_ps 2 rfl (ev_w (w2 := rz_w (rz_up v 20 1) a g) rfl ?_)
    refine ev_ps 2 rfl (ev_if (cd := .eq) rfl (fun h => absurd (rc_eq_t h) (show ¬ (1 : Int32) = 0 by decide)) (fun h => ?_))
    exact ev_ps 1 rfl (ev_ret rfl rfl ⟨_, _, rfl, ⟨rfl, rfl, rz_ks.rf⟩, rz_mf.rf.up (by omega) _, hR⟩)
  · have hin := (h2'.resolve_right (fun q => rc_eq_f e2 q.1)).2
    have e : rz_kl x n = 0 := by rw [rz_kl, rz_dc_t hin, if_pos rfl]
    rw [e]
    obtain ⟨k, hk, rfl⟩ := rz_le_nat (by omega) hin.1 hin.2
    refine ev_ps 3 rfl (ev_w (w2 := rz_w (rz_up v 20 0) a g) rfl ?_)
    refine ev_ps 2 rfl (ev_if (cd := .eq) rfl (fun h => ?_) (fun h => absurd rfl (rc_eq_f h)))
    refine ev_ps 1 rfl (ev_call (av := [_]) rfl rfl rfl rfl ⟨Nat.le_of_ble_eq_true rfl, rfl⟩ ⟨Nat.le_of_ble_eq_true rfl, Nat.le_of_ble_eq_true rfl⟩ (m_findLivesX (v := rz_up v 20 0) hn hv hR.2.2.1 hR.2.2.2.1) ?_)
    rintro _ _ ⟨rfl, f, rfl, hf⟩
    refine ev_ps 2 rfl (ev_call (av := [_, _]) rfl rfl rfl rfl ⟨Nat.le_of_ble_eq_true rfl, rfl⟩ ⟨Nat.le_of_ble_eq_true rfl, Nat.le_of_ble_eq_true rfl⟩ (m_livesAt (v := rz_up v 20 0) hv hn (by omega)) ?_)
    rintro _ _ ⟨rfl, rfl⟩
    rw [show rz_at n (rz_ua a 26 f 26) k = rz_S R n k from rz_at_cg hf]
    exact ev_ret rfl rfl ⟨_, _, rfl, ⟨by rw [if_pos rfl, rz_clamp (by omega)], rfl, rz_ks.rf⟩, (rz_mf.rf.up (by omega) _).ua (by omega) _, hR.ua (by omega) f⟩
theorem m_blockX (hR : rz_RR v a R n r b l) (x : Int32) : rz_C xs xl 90 [.ref 25, .int x] (rz_w v a g) (rz_PM v a g (fun q v' a' => q = .inl (some (.int (if rz_kb x n = 0 then Int32.ofNat (rz_bk R n x.toNatClampNeg) else 0))) ∧ v' 20 = rz_kb x n ∧ rz_ks v a v' a') R n r b l) := by
  have hn := hR.1
  have hv := hR.2.1
  refine ev_ps 7 rfl (ev_call (av := [_, _, _]) rfl rfl rfl rfl ⟨Nat.le_of_ble_eq_true rfl, rfl⟩ ⟨Nat.le_of_ble_eq_true rfl, Nat.le_of_ble_eq_true rfl⟩ (m_in _ _ _) ?_)
  rintro _ _ ⟨⟨u2, h2, rfl⟩, rfl⟩
  have h2' : (u2 = 1 ∧ ¬ x < 0 ∧ ¬ v 21 - 1 < x) ∨ (u2 = 0 ∧ ¬ (¬ x < 0 ∧ ¬ v 21 - 1 < x)) := h2
  rw [hv, rz_sub1i hn] at h2'
  refine ev_if (cd := .eq) rfl (fun e2 => ?_) (fun e2 => ?_)
  · have hin : ¬ (¬ x < 0 ∧ x < Int32.ofNat n) := h2'.elim (fun z => absurd ((rc_eq_t e2).symm.trans z.1) (by decide)) (fun z => z.2)
    have e : rz_kb x n = 1 := by rw [rz_kb, rz_dc_f hin]; rfl
    rw [e]
    refine ev_ps 2 rfl (ev_w (w2 := rz_w (rz_up v 20 1) a g) rfl ?_)
    refine ev_ps 2 rfl (ev_if (cd := .eq) rfl (fun h => absurd (rc_eq_t h) (show ¬ (1 : Int32) = 0 by decide)) (fun h => ?_))
    exact ev_ps 1 rfl (ev_ret rfl rfl ⟨_, _, rfl, ⟨rfl, rfl, rz_ks.rf⟩, rz_mf.rf.up (by omega) _, hR⟩)
  · have hin := (h2'.resolve_right (fun q => rc_eq_f e2 q.1)).2
    have e : rz_kb x n = 0 := by rw [rz_kb, rz_dc_t hin, if_pos rfl]
    rw [e]
    obtain ⟨k, hk, rfl⟩ := rz_idx (by omega) hin.1 hin.2
    rw [rz_clamp (k := k) (by omega)]
    refine ev_ps 3 rfl (ev_w (w2 := rz_w (rz_up v 20 0) a g) rfl ?_)
    refine ev_ps 2 rfl (ev_if (cd := .eq) rfl (fun h => ?_) (fun h => absurd rfl (rc_eq_f h)))
    refine ev_ps 2 rfl ?_
    refine ev_loop (α := Nat) (fun r => r) (fun j => j ≤ k ∧ rz_bk R n k = rz_bk R n j) (fun r => [some (.ref 25), some (.int (Int32.ofNat k)), some (.int (Int32.ofNat r))]) (fun _ => []) (fun _ => rz_w (rz_up v 20 0) a g) ?_ k ⟨Nat.le_refl _, rfl⟩
    rintro j ⟨hj, hbk⟩ ih
    refine ev_ps 2 rfl (ev_call (av := [_, _]) rfl rfl rfl rfl ⟨Nat.le_of_ble_eq_true rfl, rfl⟩ ⟨Nat.le_of_ble_eq_true rfl, Nat.le_of_ble_eq_true rfl⟩ (m_isBeginX (v := rz_up v 20 0) hv hn (by omega) hR.2.2.1 hR.2.2.2.1) ?_)
    rintro _ _ ⟨⟨u3, hu3, hui3, rfl⟩, rfl⟩
    refine ev_if (cd := .ne) rfl (fun h => ?_) (fun h => ?_)
    · have hb := hui3.mp (hu3.resolve_left (rc_ne_t h))
      have e9 : rz_bk R n j = j := by
        cases j with
        | zero => rfl
        | succ j => rw [rz_bk, rz_dc_t hb, if_pos rfl]
      exact ev_ps 1 rfl (ev_ret rfl rfl ⟨_, _, rfl, ⟨by rw [if_pos rfl, hbk, e9], rfl, rz_ks.rf⟩, rz_mf.rf.up (by omega) _, hR⟩)
    · have hb : ¬ rz_bn R n j := fun z => absurd ((rc_ne_f h).symm.trans (hui3.mpr z)) (by decide)
      obtain ⟨i, rfl⟩ : ∃ i, j = i + 1 := ⟨j - 1, by
        have : j ≠ 0 := fun z => hb (Or.inl z)
        omega⟩
      have h9 := ih i ⟨by omega, by rw [hbk, rz_bk, rz_dc_f hb, if_neg (by decide)]⟩ (by omega)
      rw [show Int32.ofNat i = Int32.ofNat (i + 1) + Int32.ofInt (-1) from by
        rw [← rz_succ i]
        exact (Int32.add_sub_cancel (Int32.ofNat i) 1).symm.trans (Int32.sub_eq_add_neg _ _)] at h9
      exact ev_ps 2 rfl h9
theorem m_improveY (hR : rz_RR v a R n r b l) : rz_C xs xl 97 [.ref 25] (rz_w v a g) (rz_PM v a g (fun q v' a' => q = .inl (some (.int (Int32.ofNat n - Int32.ofNat (rz_IP 24 R n 0 r b l).2.1))) ∧ rz_ks v a v' a') (rz_IP 24 R n 0 r b l).1 (rz_IP 24 R n 0 r b l).2.1 (rz_IP 24 R n 0 r b l).2.2.1 (rz_IP 24 R n 0 r b l).2.2.2.1 (rz_IP 24 R n 0 r b l).2.2.2.2) :=
  ev_mono (fun q w' ⟨v', a', h1, h2, h3, h4, h5⟩ => ⟨v', a', h2, ⟨h1, h4⟩, h3, h5⟩) (m_improveX hR)
theorem m_resultX (hR : rz_RR v a R n r b l) (x : Int32) : rz_C xs xl 84 [.ref 25, .int x] (rz_w v a g) (rz_PM v a g (fun q _ _ => rz_pi q) R n r b l) := by
  refine ev_ps 3 rfl (ev_w (w2 := rz_w (rz_up v 20 0) a g) rfl ?_)
  refine ev_ps 2 rfl (ev_ic (cd := .ne) rfl (fun h => ?_) (fun h => ?_))
  · refine ev_ps 2 rfl (ev_ic (cd := .ne) rfl (fun h => ?_) (fun h => ?_))
    · refine ev_ps 3 rfl (ev_call (av := [_, _, _]) rfl rfl rfl rfl ⟨Nat.le_of_ble_eq_true rfl, rfl⟩ ⟨Nat.le_of_ble_eq_true rfl, Nat.le_of_ble_eq_true rfl⟩ (m_in _ _ _) ?_)
      rintro _ _ ⟨⟨u1, h1, rfl⟩, rfl⟩
      refine ev_if (cd := .eq) rfl (fun e => ?_) (fun e1 => ?_)
      · exact ev_ps 1 rfl (ev_ret rfl rfl ⟨_, _, rfl, ⟨_, rfl⟩, rz_mf.rf.up (by omega) _, hR⟩)
      · obtain ⟨-, x0, x1⟩ := h1.resolve_right (fun q => rc_eq_f e1 q.1)
        obtain ⟨k, hk, rfl⟩ := rz_le_nat (b := 11) (by decide) x0 x1
        refine ev_ps 3 rfl (ev_ald rfl rfl (rz_in (by omega) (by decide)) ?_)
        exact ev_ps 1 rfl (ev_ret rfl rfl ⟨_, _, rfl, ⟨_, rfl⟩, rz_mf.rf.up (by omega) _, hR⟩)
    · exact ev_ps 3 rfl (ev_ret rfl rfl ⟨_, _, rfl, ⟨_, rfl⟩, rz_mf.rf.up (by omega) _, hR⟩)
  · exact ev_ps 3 rfl (ev_ret rfl rfl ⟨_, _, rfl, ⟨_, rfl⟩, rz_mf.rf.up (by omega) _, hR⟩)
theorem m_sameX {k : Nat} (hR : rz_RR v a R k r b l) (x n y m z : Int32) : rz_C xs xl 92 [.ref 25, .int x, .int n, .int y, .int m, .int z] (rz_w v a g) (rz_PM v a g (fun q _ _ => rz_pi q) R k r b l) := by
  have no : ∀ c : Int32, c ≠ 0 → rz_E xs xl 92 82 [some (.ref 25), some (.int x), some (.int n), some (.int y), some (.int m), some (.int z)] [.int c, .ref 25] (rz_w v a g) 0 0 (rz_PM v a g (fun q _ _ => rz_pi q) R k r b l) := by
    intro c hc
    refine ev_ps 1 rfl (ev_w (w2 := rz_w (rz_up v 20 c) a g) rfl ?_)
    refine ev_ps 2 rfl (ev_if (cd := .ne) rfl (fun h => ?_) (fun h => absurd (rc_ne_f h) hc))
    exact ev_ps 1 rfl (ev_ret rfl rfl ⟨_, _, rfl, ⟨_, rfl⟩, rz_mf.rf.up (by omega) _, hR⟩)
  have no1 : rz_E xs xl 92 31 [some (.ref 25), some (.int x), some (.int n), some (.int y), some (.int m), some (.int z)] [.ref 25] (rz_w v a g) 0 0 (rz_PM v a g (fun q _ _ => rz_pi q) R k r b l) := ev_ps 2 rfl (no 1 (by decide))
  have no2 : rz_E xs xl 92 54 [some (.ref 25), some (.int x), some (.int n), some (.int y), some (.int m), some (.int z)] [.ref 25] (rz_w v a g) 0 0 (rz_PM v a g (fun q _ _ => rz_pi q) R k r b l) := ev_ps 2 rfl (no 2 (by decide))
  have no3 : rz_E xs xl 92 77 [some (.ref 25), some (.int x), some (.int n), some (.int y), some (.int m), some (.int z)] [.ref 25] (rz_w v a g) 0 0 (rz_PM v a g (fun q _ _ => rz_pi q) R k r b l) := ev_ps 2 rfl (no 3 (by decide))
  have hk := hR.1
  have hv := hR.2.1
  have hrows : ∀ j, j < k → rz_li a j := fun j hj => rz_pr_li hR.2.2.1 hR.2.2.2.1 hj
  refine ev_ps 4 rfl (ev_call (av := [_, _, _]) rfl rfl rfl rfl ⟨Nat.le_of_ble_eq_true rfl, rfl⟩ ⟨Nat.le_of_ble_eq_true rfl, Nat.le_of_ble_eq_true rfl⟩ (m_in _ _ _) ?_)
  rintro _ _ ⟨⟨u1, h1, rfl⟩, rfl⟩
  refine ev_if (cd := .eq) rfl (fun e => no1) (fun e1 => ?_)
  obtain ⟨-, n0, n1⟩ := h1.resolve_right (fun q => rc_eq_f e1 q.1)
  refine ev_ps 3 rfl (ev_call (av := [_, _, _]) rfl rfl rfl rfl ⟨Nat.le_of_ble_eq_true rfl, rfl⟩ ⟨Nat.le_of_ble_eq_true rfl, Nat.le_of_ble_eq_true rfl⟩ (m_in _ _ _) ?_)
  rintro _ _ ⟨⟨u2, h2, rfl⟩, rfl⟩
  refine ev_if (cd := .eq) rfl (fun e => no1) (fun e2 => ?_)
  obtain ⟨-, m0, m1⟩ := h2.resolve_right (fun q => rc_eq_f e2 q.1)
  refine ev_ps 3 rfl (ev_call (av := [_, _, _]) rfl rfl rfl rfl ⟨Nat.le_of_ble_eq_true rfl, rfl⟩ ⟨Nat.le_of_ble_eq_true rfl, Nat.le_of_ble_eq_true rfl⟩ (m_in _ _ _) ?_)
  rintro _ _ ⟨⟨u3, h3, rfl⟩, rfl⟩
  refine ev_if (cd := .ne) rfl (fun e3 => ?_) (fun e => no1)
  obtain ⟨n', hn', rfl⟩ := rz_le_nat (b := 3) (by decide) n0 n1
  obtain ⟨m', hm', rfl⟩ := rz_le_nat (b := 3) (by decide) m0 m1
  refine ev_ps 3 rfl (ev_call (av := [_, _, _]) rfl rfl rfl rfl ⟨Nat.le_of_ble_eq_true rfl, rfl⟩ ⟨Nat.le_of_ble_eq_true rfl, Nat.le_of_ble_eq_true rfl⟩ (m_isThere _ hn' hk hv) ?_)
  rintro _ _ ⟨⟨u4, hu4, hP4, rfl⟩, rfl⟩
  refine ev_if (cd := .eq) rfl (fun e => no2) (fun e4 => ?_)
  obtain ⟨p, rfl, hpn⟩ := hP4 (hu4.resolve_left (rc_eq_f e4))
  refine ev_ps 3 rfl (ev_call (av := [_, _, _]) rfl rfl rfl rfl ⟨Nat.le_of_ble_eq_true rfl, rfl⟩ ⟨Nat.le_of_ble_eq_true rfl, Nat.le_of_ble_eq_true rfl⟩ (m_isThere _ hm' hk hv) ?_)
  rintro _ _ ⟨⟨u5, hu5, hP5, rfl⟩, rfl⟩
  refine ev_if (cd := .ne) rfl (fun e5 => ?_) (fun e => no2)
  obtain ⟨q, rfl, hqm⟩ := hP5 (hu5.resolve_left (rc_ne_t e5))
  refine ev_ps 3 rfl (ev_call (av := [_, _, _]) rfl rfl rfl rfl ⟨Nat.le_of_ble_eq_true rfl, rfl⟩ ⟨Nat.le_of_ble_eq_true rfl, Nat.le_of_ble_eq_true rfl⟩ (m_isPlain (by omega)) ?_)
  rintro _ _ ⟨⟨u6, hu6, -, rfl⟩, rfl⟩
  refine ev_if (cd := .eq) rfl (fun e => no3) (fun e6 => ?_)
  refine ev_ps 3 rfl (ev_call (av := [_, _, _]) rfl rfl rfl rfl ⟨Nat.le_of_ble_eq_true rfl, rfl⟩ ⟨Nat.le_of_ble_eq_true rfl, Nat.le_of_ble_eq_true rfl⟩ (m_isPlain (by omega)) ?_)
  rintro _ _ ⟨⟨u7, hu7, -, rfl⟩, rfl⟩
  refine ev_if (cd := .ne) rfl (fun e7 => ?_) (fun e => no3)
  refine ev_ps 2 rfl (ev_w (w2 := rz_w (rz_up v 20 0) a g) rfl ?_)
  refine ev_ps 2 rfl (ev_if (cd := .ne) rfl (fun h => absurd rfl (rc_ne_t h)) (fun h => ?_))
  refine ev_ps 6 rfl (ev_call (av := [_, _, _, _, _, _]) rfl rfl rfl rfl ⟨Nat.le_of_ble_eq_true rfl, rfl⟩ ⟨Nat.le_of_ble_eq_true rfl, Nat.le_of_ble_eq_true rfl⟩ (m_agree _ (by omega) (by omega) (fun j h1 h2 => hrows j (by omega)) (fun j h1 h2 => hrows j (by omega))) ?_)
  rintro _ _ ⟨⟨u8, hu8, rfl⟩, f1, f2, rfl⟩
  refine ev_if (cd := .eq) rfl (fun h => ?_) (fun h => ?_)
  · exact ev_ps 1 rfl (ev_ret rfl rfl ⟨_, _, rfl, ⟨_, rfl⟩, ((rz_mf.rf.up (by omega) _).ua (by omega) _).ua (by omega) _, (hR.ua (by omega) f1).ua (by omega) f2⟩)
  · exact ev_ps 2 rfl (ev_ret rfl rfl ⟨_, _, rfl, ⟨_, rfl⟩, ((rz_mf.rf.up (by omega) _).ua (by omega) _).ua (by omega) _, (hR.ua (by omega) f1).ua (by omega) f2⟩)
theorem m_runX {l0 : Nat} (hR : rz_RR v a R n r b l0) (x : Int32) : rz_C xs xl 80 [.ref 25, .int x] (rz_w v a g) (rz_PM v a g (fun q _ _ => rz_pi q) R n r b l0) := by
  have hmi := hR.mi
  have hn := hR.1
  have hv := hR.2.1
  have hrows : ∀ j, j < n → rz_li a j := fun j hj => rz_pr_li hR.2.2.1 hR.2.2.2.1 hj
  refine ev_ps 4 rfl (ev_call (av := [_, _, _]) rfl rfl rfl rfl ⟨Nat.le_of_ble_eq_true rfl, rfl⟩ ⟨Nat.le_of_ble_eq_true rfl, Nat.le_of_ble_eq_true rfl⟩ (m_in _ _ _) ?_)
  rintro _ _ ⟨⟨u2, h2, rfl⟩, rfl⟩
  refine ev_if (cd := .eq) rfl (fun e2 => ?_) (fun e2 => ?_)
  · refine ev_ps 2 rfl (ev_w (w2 := rz_w (rz_up v 20 1) a g) rfl ?_)
    refine ev_ps 2 rfl (ev_if (cd := .eq) rfl (fun h => absurd (rc_eq_t h) (show ¬ (1 : Int32) = 0 by decide)) (fun h => ?_))
    exact ev_ps 1 rfl (ev_ret rfl rfl ⟨_, _, rfl, ⟨_, rfl⟩, rz_mf.rf.up (by omega) _, hR⟩)
  · obtain ⟨-, y0, y1⟩ := h2.resolve_right (fun q => rc_eq_f e2 q.1)
    obtain ⟨l, hl, rfl⟩ := rz_le_nat (b := 500) (by decide) y0 y1
    refine ev_ps 3 rfl (ev_w (w2 := rz_w (rz_up v 20 0) a g) rfl ?_)
    refine ev_ps 2 rfl (ev_if (cd := .eq) rfl (fun h => ?_) (fun h => absurd rfl (rc_eq_f h)))
    have fin : ∀ (e : Int32) (j : Int32) (f f2 : Nat → Int32), rz_sm f2 12 → rz_mf v a (rz_up (rz_up (rz_up v 20 0) 22 e) 23 j) (rz_ua (rz_ua a 27 f) 25 f2) ∧ rz_RR (rz_up (rz_up (rz_up v 20 0) 22 e) 23 j) (rz_ua (rz_ua a 27 f) 25 f2) R n r b l0 := fun e j f f2 hf2 =>
      ⟨((((rz_mf.rf.up (by omega) _).up (by omega) _).up (by omega) _).ua (by omega) _).ua (by omega) _, hR.1, hR.2.1, hR.2.2.1, hR.2.2.2.1, hR.2.2.2.2.1, hR.2.2.2.2.2.1, hf2, hR.2.2.2.2.2.2.2⟩
    have loop : ∀ (e : Int32) (t3 : Option Value) (j : Nat) (f f2 : Nat → Int32), rz_sm f2 12 → (e = 0 → j < n) → rz_E xs xl 80 82 [some (.ref 25), some (.int (Int32.ofNat l)), some (.int (Int32.ofNat 0)), t3] [] (rz_w (rz_up (rz_up (rz_up v 20 0) 22 e) 23 (Int32.ofNat j)) (rz_ua (rz_ua a 27 f) 25 f2) g) 0 0 (rz_PM v a g (fun q _ _ => rz_pi q) R n r b l0) := by
      intro e t3 j f f2 hf2 he
      refine ev_loop (α := Nat × Int32 × Option Value × Nat × (Nat → Int32) × (Nat → Int32)) (fun r => l - r.1) (fun r => r.1 ≤ l ∧ rz_sm r.2.2.2.2.2 12 ∧ (r.2.1 = 0 → r.2.2.2.1 < n)) (fun r => [some (.ref 25), some (.int (Int32.ofNat l)), some (.int (Int32.ofNat r.1)), r.2.2.1]) (fun _ => []) (fun r => rz_w (rz_up (rz_up (rz_up v 20 0) 22 r.2.1) 23 (Int32.ofNat r.2.2.2.1)) (rz_ua (rz_ua a 27 r.2.2.2.2.1) 25 r.2.2.2.2.2) g) ?_ (0, e, t3, j, f, f2) ⟨Nat.zero_le _, hf2, he⟩
      rintro ⟨k, e, t3, j, f, f2⟩ ⟨hk, hf2, he⟩ ih
      dsimp only at hk hf2 he ih ⊢
      obtain ⟨m1, m2⟩ := fin e (Int32.ofNat j) f f2 hf2
      refine ev_ps 2 rfl (ev_if (cd := .ne) rfl (fun h => ?_) (fun h => ?_))
      · exact ev_ps 1 rfl (ev_ret rfl rfl ⟨_, _, rfl, ⟨_, rfl⟩, m1, m2⟩)
      · refine ev_ps 2 rfl (ev_ic (cd := .ge) rfl (fun h1 => ?_) (fun h1 => ?_))
        · exact ev_ps 1 rfl (ev_ret rfl rfl ⟨_, _, rfl, ⟨_, rfl⟩, m1, m2⟩)
        · have hk' : k < l := rn_ge_f (by omega) (by omega) h1
          have hj : j < n := he (rc_ne_f h)
          refine ev_ps 5 rfl (ev_call (av := [_, _]) rfl rfl rfl rfl ⟨Nat.le_of_ble_eq_true rfl, rfl⟩ ⟨Nat.le_of_ble_eq_true rfl, Nat.le_of_ble_eq_true rfl⟩ (m_execute m2.mi hv hn hj (hrows j hj)) ?_)
          rintro _ _ ⟨rfl, j2, f3, f4, hj2, hf4, rfl⟩
          refine ev_w (w2 := rz_w (rz_up (rz_up (rz_up v 20 0) 22 e) 23 (Int32.ofNat j2)) (rz_ua (rz_ua a 27 f3) 25 f4) g) rfl ?_
          have next : ∀ e2 : Int32, (e2 = 0 → j2 < n) → rz_E xs xl 80 135 [some (.ref 25), some (.int (Int32.ofNat l)), some (.int (Int32.ofNat k + Int32.ofInt 1)), some (.int (Int32.ofNat j))] [.int e2, .ref 25] (rz_w (rz_up (rz_up (rz_up v 20 0) 22 e) 23 (Int32.ofNat j2)) (rz_ua (rz_ua a 27 f3) 25 f4) g) 0 0 (rz_PM v a g (fun q _ _ => rz_pi q) R n r b l0) := by
            intro e3 he3
            have h9 := ih (k + 1, e3, some (.int (Int32.ofNat j)), j2, f3, f4) ⟨by show k + 1 ≤ l; omega, hf4, he3⟩ (by show l - (k + 1) < l - k; omega)
            dsimp only at h9
            rw [← rz_succ k] at h9
            exact ev_ps 1 rfl (ev_w (w2 := rz_w (rz_up (rz_up (rz_up v 20 0) 22 e3) 23 (Int32.ofNat j2)) (rz_ua (rz_ua a 27 f3) 25 f4) g) rfl (ev_ps 1 rfl h9))
          refine ev_ps 5 rfl (ev_ald rfl rfl (rz_in (by omega) (by decide)) ?_)
          refine ev_ps 1 rfl (ev_ic (cd := .eq) rfl (fun h5 => ?_) (fun h5 => ?_))
          · exact ev_ps 2 rfl (next 1 (fun q => absurd q (by decide)))
          · refine ev_ps 4 rfl (ev_ic (cd := .lt) rfl (fun h6 => ?_) (fun h6 => ?_))
            · have h6' : rz_cmp .lt (Int32.ofNat j2) (v 21) = true := h6
              rw [hv] at h6'
              exact ev_ps 1 rfl (next 0 (fun _ => rn_lt_t (by omega) (by omega) h6'))
            · exact ev_ps 2 rfl (next 1 (fun q => absurd q (by decide)))
    refine ev_ps 2 rfl (ev_w (w2 := rz_w (rz_up v 20 0) (rz_ua a 25 (a 25)) g) rfl ?_)
    refine ev_loop (α := Nat × (Nat → Int32)) (fun r => 12 - r.1) (fun r => r.1 ≤ 12 ∧ rz_sm r.2 12) (fun r => [some (.ref 25), some (.int (Int32.ofNat l)), some (.int (Int32.ofNat r.1)), none]) (fun _ => []) (fun r => rz_w (rz_up v 20 0) (rz_ua a 25 r.2) g) ?_ (0, a 25) ⟨Nat.zero_le _, hmi.2.2.2⟩
    rintro ⟨k, f2⟩ ⟨hk, hf2⟩ ih
    dsimp only at hk hf2 ih ⊢
    refine ev_ps 2 rfl (ev_ic (cd := .ge) rfl (fun h => ?_) (fun h => ?_))
    · refine ev_ps 3 rfl (ev_w (w2 := rz_w (rz_up (rz_up (rz_up v 20 0) 22 (v 22)) 23 0) (rz_ua (rz_ua a 27 (a 27)) 25 f2) g) rfl ?_)
      have go : ∀ e2 : Int32, (e2 = 0 → 0 < n) → rz_E xs xl 80 77 [some (.ref 25), some (.int (Int32.ofNat l)), some (.int (Int32.ofNat k)), none] [.int e2, .ref 25] (rz_w (rz_up (rz_up (rz_up v 20 0) 22 (v 22)) 23 0) (rz_ua (rz_ua a 27 (a 27)) 25 f2) g) 0 0 (rz_PM v a g (fun q _ _ => rz_pi q) R n r b l0) := by
        intro e3 he3
        exact ev_ps 1 rfl (ev_w (w2 := rz_w (rz_up (rz_up (rz_up v 20 0) 22 e3) 23 (Int32.ofNat 0)) (rz_ua (rz_ua a 27 (a 27)) 25 f2) g) rfl (ev_ps 2 rfl (loop e3 _ 0 _ f2 hf2 he3)))
      refine ev_ps 5 rfl (ev_ic (cd := .lt) rfl (fun h6 => ?_) (fun h6 => ?_))
      · have h6' : rz_cmp .lt (Int32.ofNat 0) (v 21) = true := h6
        rw [hv] at h6'
        exact ev_ps 1 rfl (go 0 (fun _ => rn_lt_t (by omega) (by omega) h6'))
      · exact ev_ps 2 rfl (go 1 (fun q => absurd q (by decide)))
    · have hk' : k < 12 := rn_ge_f (k := 12) (by omega) (by omega) h
      obtain ⟨y, hy, ey⟩ := hmi.2.2.1 k hk'
      have ei := rz_clamp (k := k) (by omega)
      refine ev_ps 6 rfl (ev_ald rfl rfl (rz_in hk' (by decide)) ?_)
      refine ev_ast rfl rfl (rz_in hk' (by decide)) ?_
      have h9 := ih (k + 1, upd f2 k (Int32.ofNat y)) ⟨by show k + 1 ≤ 12; omega, rz_sm_up hf2 hy⟩ (by show 12 - (k + 1) < 12 - k; omega)
      dsimp only at h9
      rw [← rz_succ k] at h9
      refine ev_w (w2 := rz_w (rz_up v 20 0) (rz_ua a 25 (upd f2 k (Int32.ofNat y))) g) ?_ (ev_ps 2 rfl h9)
      rw [ei, ← ey]; rfl
theorem m_startX (hR : rz_RR v a R n r b l) (x y : Int32) : rz_C xs xl 79 [.ref 25, .int x, .int y] (rz_w v a g) (rz_PM v a g (fun q v' a' => q = .inl none ∧ ((v' 20 = 0 ∧ rz_sok x y) ∨ (v' 20 = 1 ∧ ¬ rz_sok x y))) R n r b l) := by
  have no : ¬ rz_sok x y → rz_E xs xl 79 25 [some (.ref 25), some (.int x), some (.int y)] [.ref 25] (rz_w v a g) 0 0 (rz_PM v a g (fun q v' a' => q = .inl none ∧ ((v' 20 = 0 ∧ rz_sok x y) ∨ (v' 20 = 1 ∧ ¬ rz_sok x y))) R n r b l) := by
    intro hno
    refine ev_ps 2 rfl (ev_w (w2 := rz_w (rz_up v 20 1) a g) rfl ?_)
    refine ev_ps 2 rfl (ev_if (cd := .ne) rfl (fun h => ?_) (fun h => absurd (rc_ne_f h) (show ¬ (1 : Int32) = 0 by decide)))
    exact ev_ret rfl rfl ⟨_, _, rfl, ⟨rfl, Or.inr ⟨rfl, hno⟩⟩, rz_mf.rf.up (by omega) _, hR⟩
  refine ev_ps 4 rfl (ev_call (av := [_, _, _]) rfl rfl rfl rfl ⟨Nat.le_of_ble_eq_true rfl, rfl⟩ ⟨Nat.le_of_ble_eq_true rfl, Nat.le_of_ble_eq_true rfl⟩ (m_in _ _ _) ?_)
  rintro _ _ ⟨⟨u1, h1, rfl⟩, rfl⟩
  refine ev_if (cd := .eq) rfl (fun e => no ?_) (fun e1 => ?_)
  · intro hok
    rcases h1 with ⟨q, -⟩ | ⟨-, q⟩
    · rw [rc_eq_t e] at q; exact absurd q (by decide)
    · refine q ⟨hok.1, ?_⟩
      intro q2
      have : x < 12 := hok.2.1
      obtain ⟨k, hk, rfl⟩ := rz_idx (n := 12) (by decide) (fun h => hok.1 (Int32.lt_trans h (by decide))) this
      have := (rz_lt_iff (n := 11) (by omega) (by omega)).mp q2
      omega
  obtain ⟨-, x0, x1⟩ := h1.resolve_right (fun q => rc_eq_f e1 q.1)
  refine ev_ps 3 rfl (ev_call (av := [_, _, _]) rfl rfl rfl rfl ⟨Nat.le_of_ble_eq_true rfl, rfl⟩ ⟨Nat.le_of_ble_eq_true rfl, Nat.le_of_ble_eq_true rfl⟩ (m_in _ _ _) ?_)
  rintro _ _ ⟨⟨u2, h2, rfl⟩, rfl⟩
  refine ev_if (cd := .eq) rfl (fun e => no ?_) (fun e2 => ?_)
  · intro hok
    rcases h2 with ⟨q, -⟩ | ⟨-, q⟩
    · rw [rc_eq_t e] at q; exact absurd q (by decide)
    · exact q ⟨hok.2.2.1, hok.2.2.2⟩
  obtain ⟨-, y0, y1⟩ := h2.resolve_right (fun q => rc_eq_f e2 q.1)
  obtain ⟨k, hk, rfl⟩ := rz_le_nat (b := 11) (by decide) (fun h => x0 (Int32.lt_trans h (by decide))) x1
  obtain ⟨j, hj, rfl⟩ := rz_le_nat (b := 15) (by decide) y0 y1
  have hok : rz_sok (Int32.ofNat k) (Int32.ofNat j) := ⟨x0, (rz_lt_iff (k := 12) (by omega) (by omega)).mpr (by omega), y0, y1⟩
  refine ev_ps 3 rfl (ev_w (w2 := rz_w (rz_up v 20 0) a g) rfl ?_)
  refine ev_ps 2 rfl (ev_if (cd := .ne) rfl (fun h => absurd rfl (rc_ne_t h)) (fun h => ?_))
  refine ev_ps 4 rfl (ev_ast rfl rfl (rz_in (by omega) (by decide)) ?_)
  refine ev_w (w2 := rz_w (rz_up v 20 0) (rz_ua a 24 (upd (a 24) k (Int32.ofNat j))) g) (by rw [rz_clamp (by omega)]; rfl) ?_
  refine ev_ret rfl rfl ⟨_, _, rfl, ⟨rfl, Or.inl ⟨rfl, hok⟩⟩, (rz_mf.rf.up (by omega) _).ua (by omega) _, hR.1, hR.2.1, hR.2.2.1, hR.2.2.2.1, hR.2.2.2.2.1, ?_, hR.2.2.2.2.2.2⟩
  intro i hi
  show ∃ j', j' ≤ 15 ∧ upd (a 24) k (Int32.ofNat j) i = Int32.ofNat j'
  by_cases hik : i = k
  · exact ⟨j, hj, by simp [upd, hik]⟩
  · obtain ⟨j', hj', e⟩ := hR.2.2.2.2.2.1 i hi
    exact ⟨j', hj', by simp [upd, hik]; exact e⟩
end RZZ2
/-! the machine, exactly -/
section RZZ3
variable {xs : Nat → Int32} {xl : Nat} {v : Nat → Int32} {a : Nat → Nat → Int32} {g : Nat → Int64} {R : Nat → rz_Q} {n r b l P : Nat} {w : rz_W} {S T : Nat → Int32} {q : rz_Q} {E : Int32}
def rz_cx (q : rz_Q) (T : Nat → Int32) : Nat := ((T q.2.2.1).toNatClampNeg + q.2.2.2) % 8
def rz_ex (q : rz_Q) (T : Nat → Int32) : Nat → Int32 := if q.1 ≤ 9 then (fun k => if k < 4 then rz_sp q T k else T k) else if q.1 = 10 then (fun k => if k = q.2.1 then (if q.2.1 = 0 then 0 else T (4 + rz_cx q T)) else T k) else if q.1 = 11 then upd T (4 + rz_cx q T) (T q.2.1) else T
def rz_jp (q : rz_Q) (T : Nat → Int32) : Prop := q.1 = 14 ∨ (q.1 = 12 ∧ T q.2.1 = T q.2.2.1) ∨ (q.1 = 13 ∧ ¬ T q.2.1 = T q.2.2.1)
noncomputable def rz_np (q : rz_Q) (T : Nat → Int32) (P : Nat) : Nat := if rz_dc (rz_jp q T) = true then q.2.2.2 else P + 1
def rz_en (n : Nat) (q : rz_Q) (P : Nat) : Int32 := if q.1 = 15 ∨ n ≤ P then 1 else 0
def rz_e0 (n : Nat) : Int32 := if n ≤ 0 then 1 else 0
noncomputable def rz_rn (R : Nat → rz_Q) (n : Nat) : Nat → (Nat → Int32) → Nat → Int32 → Nat → (Nat → Int32) × Nat × Int32 × Nat
  | 0, T, P, E, c => (T, P, E, c)
  | d + 1, T, P, E, c => if E = 0 then rz_rn R n d (rz_ex (R P) T) (rz_np (R P) T P) (rz_en n (R P) (rz_np (R P) T P)) (c + 1) else (T, P, E, c)
theorem rz_rn_end {d c : Nat} (h : ¬ E = 0) : rz_rn R n d T P E c = (T, P, E, c) := by
  cases d with
  | zero => rfl
  | succ d => rw [rz_rn, if_neg h]
theorem rz_ex_9 (h : q.1 ≤ 9) : rz_ex q T = fun k => if k < 4 then rz_sp q T k else T k := by unfold rz_ex; rw [if_pos h]
theorem rz_ex_10 (h : q.1 = 10) : rz_ex q T = fun k => if k = q.2.1 then (if q.2.1 = 0 then 0 else T (4 + rz_cx q T)) else T k := by unfold rz_ex; rw [if_neg (by omega), if_pos h]
theorem rz_ex_11 (h : q.1 = 11) : rz_ex q T = upd T (4 + rz_cx q T) (T q.2.1) := by unfold rz_ex; rw [if_neg (by omega), if_neg (by omega), if_pos h]
theorem rz_ex_12 (h : 12 ≤ q.1) : rz_ex q T = T := by unfold rz_ex; rw [if_neg (by omega), if_neg (by omega), if_neg (by omega)]
theorem rz_cx_lt : rz_cx q T < 8 := by unfold rz_cx; omega
theorem rz_ex_sm (hq : rz_lg q) (h : rz_sm T 12) : rz_sm (rz_ex q T) 12 := by
  have hc := rz_cx_lt (q := q) (T := T)
  rcases (show q.1 ≤ 9 ∨ q.1 = 10 ∨ q.1 = 11 ∨ 12 ≤ q.1 by omega) with h9 | h10 | h11 | h12
  · rw [rz_ex_9 h9]
    intro k hk
    show ∃ j, j ≤ 15 ∧ (if k < 4 then rz_sp q T k else T k) = Int32.ofNat j
    by_cases h4 : k < 4
    · rw [if_pos h4]
      unfold rz_sp
      by_cases hkd : k = q.2.1
      · rw [if_pos hkd]
        by_cases h0 : q.2.1 = 0
        · rw [if_pos h0]; exact ⟨0, by omega, rfl⟩
        · rw [if_neg h0]
          unfold rz_made
          exact rz_mask _ 15 (by decide)
      · rw [if_neg hkd]; exact h k hk
    · rw [if_neg h4]; exact h k hk
  · rw [rz_ex_10 h10]
    intro k hk
    show ∃ j, j ≤ 15 ∧ (if k = q.2.1 then (if q.2.1 = 0 then 0 else T (4 + rz_cx q T)) else T k) = Int32.ofNat j
    by_cases hkd : k = q.2.1
    · rw [if_pos hkd]
      by_cases h0 : q.2.1 = 0
      · rw [if_pos h0]; exact ⟨0, by omega, rfl⟩
      · rw [if_neg h0]; exact h _ (by omega)
    · rw [if_neg hkd]; exact h k hk
  · rw [rz_ex_11 h11]
    intro k hk
    obtain ⟨j, hj, e⟩ := h q.2.1 (by have := hq.2.1; omega)
    rw [e]
    exact rz_sm_up h hj k hk
  · rw [rz_ex_12 h12]; exact h
/-- the class's machine -/
def rz_CM (v : Nat → Int32) (a : Nat → Nat → Int32) (S T : Nat → Int32) (P : Nat) (E : Int32) : Prop := (rz_rg (v 1) S ∧ (∀ k, k < 8 → a 1 k = S (4 + k)) ∧ rz_sm S 12) ∧ (rz_rg (v 2) T ∧ (∀ k, k < 8 → a 2 k = T (4 + k)) ∧ rz_sm T 12) ∧ v 3 = Int32.ofNat P ∧ P ≤ 24 ∧ v 4 = E ∧ (E = 0 ∨ E = 1)
/-- the reference's -/
def rz_RM (v : Nat → Int32) (a : Nat → Nat → Int32) (S T : Nat → Int32) (P : Nat) (E : Int32) : Prop := (∀ k, k < 12 → a 24 k = S k) ∧ (∀ k, k < 12 → a 25 k = T k) ∧ v 23 = Int32.ofNat P ∧ v 22 = E
theorem rz_CM.kc {v' : Nat → Int32} {a' : Nat → Nat → Int32} (h : rz_CM v a S T P E) (hk : rz_kc v a v' a') : rz_CM v' a' S T P E := by
  obtain ⟨k1, k2, k3, k4, k5, k6⟩ := hk
  unfold rz_CM
  rw [k1, k2, k3, k4, k5, k6]
  exact h
theorem rz_RM.ks {v' : Nat → Int32} {a' : Nat → Nat → Int32} (h : rz_RM v a S T P E) (hk : rz_ks v a v' a') : rz_RM v' a' S T P E := by
  obtain ⟨k1, k2, k3, k4⟩ := hk
  unfold rz_RM
  rw [k1, k2, k3, k4]
  exact h
theorem rz_CM.mf {v' : Nat → Int32} {a' : Nat → Nat → Int32} (h : rz_CM v a S T P E) (hf : rz_mf v a v' a') : rz_CM v' a' S T P E := h.kc ⟨hf.1 1 (by omega), hf.1 2 (by omega), hf.1 3 (by omega), hf.1 4 (by omega), hf.2 1 (by omega), hf.2 2 (by omega)⟩
theorem rz_RM.cf {v' : Nat → Int32} {a' : Nat → Nat → Int32} (h : rz_RM v a S T P E) (hf : rz_cf v a v' a') : rz_RM v' a' S T P E := h.ks ⟨hf.1 22 (by omega), hf.1 23 (by omega), hf.2 24 (by omega), hf.2 25 (by omega)⟩
noncomputable def rz_stt (S : Nat → Int32) (x y : Int32) : Nat → Int32 := if rz_dc (rz_sok x y) = true then upd S x.toNatClampNeg y else S
noncomputable def rz_krn (x : Int32) : Int32 := if rz_dc (¬ x < 0 ∧ ¬ 500 < x) = true then 0 else 1
noncomputable def rz_frr (R : Nat → rz_Q) (n : Nat) (S T : Nat → Int32) (P : Nat) (E : Int32) (x : Int32) : (Nat → Int32) × Nat × Int32 × Nat := if rz_krn x = 0 then rz_rn R n x.toNatClampNeg S 0 (rz_e0 n) 0 else (T, P, E, 0)
noncomputable def rz_rs (T : Nat → Int32) (P : Nat) (E : Int32) (x : Int32) : Int32 := if x = 12 then E else if x = 13 then Int32.ofNat P else if rz_dc (¬ x < 0 ∧ ¬ 11 < x) = true then T x.toNatClampNeg else -1
theorem rz_sm_S {k : Nat} {y : Int32} (h : rz_sm S 12) (hy : ¬ y < 0 ∧ ¬ 15 < y) : rz_sm (upd S k y) 12 := by
  obtain ⟨j, hj, rfl⟩ := rz_le_nat (b := 15) (by decide) hy.1 hy.2
  exact rz_sm_up h hj
theorem x_setStart {k : Nat} {y : Int32} (hk1 : 1 ≤ k) (hk : k < 12) (hy : ¬ y < 0 ∧ ¬ 15 < y) (hr : rz_rg (v 1) S) (hc : ∀ i, i < 8 → a 1 i = S (4 + i)) : rz_C xs xl 60 [.ref 3, .int (Int32.ofNat k), .int y] (rz_w v a g) (fun q w' => q = .inl none ∧ ∃ r f, w' = rz_w (rz_up v 1 r) (rz_ua a 1 f) g ∧ rz_rg r (upd S k y) ∧ ∀ i, i < 8 → f i = upd S k y (4 + i)) := by
  refine ev_ps 2 rfl (ev_ic (cd := .ge) rfl (fun h1 => ?_) (fun h1 => ?_))
  · have h4 : 4 ≤ k := rn_ge_t (k := 4) (by omega) (by omega) h1
    have e4 : Int32.ofNat k - Int32.ofInt 4 = Int32.ofNat (k - 4) := rz_sub (n := 4) h4
    refine ev_ps 6 rfl (ev_ast rfl rfl (by rw [e4]; exact rz_in (by omega) (by decide)) ?_)
    rw [e4, rz_clamp (by omega)]
    refine ev_ret rfl rfl ⟨rfl, v 1, upd (a 1) (k - 4) y, rfl, ⟨?_, fun i hi => ?_⟩, fun i hi => ?_⟩
    · simp only [upd]; rw [if_neg (by omega)]; exact hr.1
    · rw [hr.2 i hi]; simp only [upd]; rw [if_neg (by omega)]
    · simp only [upd]
      by_cases hik : i = k - 4
      · rw [if_pos hik, if_pos (by omega)]
      · rw [if_neg hik, if_neg (by omega)]; exact hc i hi
  · have h4 : k < 4 := rn_ge_f (k := 4) (by omega) (by omega) h1
    refine ev_ps 5 rfl (ev_call (av := [_, _, _]) rfl rfl rfl rfl ⟨Nat.le_of_ble_eq_true rfl, rfl⟩ ⟨Nat.le_of_ble_eq_true rfl, Nat.le_of_ble_eq_true rfl⟩ (x_with _ _ _) ?_)
    rintro _ _ ⟨rfl, rfl⟩
    have ey : y &&& 15 = y := by
      obtain ⟨j, hj, rfl⟩ := rz_le_nat (b := 15) (by decide) hy.1 hy.2
      have key : ∀ j, j < 16 → Int32.ofNat j &&& 15 = Int32.ofNat j := by decide +kernel
      exact key j (by omega)
    refine ev_ps 2 rfl (ev_ret rfl rfl ⟨rfl, rz_wi (v 1) (Int32.ofNat k) y, a 1, rfl, ⟨?_, fun i hi => ?_⟩, fun i hi => ?_⟩)
    · simp only [upd]; rw [if_neg (by omega)]; exact hr.1
    · rw [rz_wv (by omega) hi]
      simp only [upd]
      by_cases hik : i = k
      · rw [if_pos ⟨hik, by omega⟩, if_pos hik, ey]
      · rw [if_neg (fun z => hik z.1), if_neg hik]; exact hr.2 i hi
    · simp only [upd]
      rw [if_neg (by omega)]; exact hc i hi
theorem x_jumps (hq : rz_lg q) (hr : rz_rg (v 2) T) : rz_C xs xl 64 [.ref 3, .int (rz_pk q)] (rz_w v a g) (rz_bx (rz_w v a g) (rz_jp q T)) := by
  refine ev_ps 3 rfl (ev_call (av := [_]) rfl rfl rfl rfl ⟨Nat.le_of_ble_eq_true rfl, rfl⟩ ⟨Nat.le_of_ble_eq_true rfl, Nat.le_of_ble_eq_true rfl⟩ (x_d hq) ?_)
  rintro _ _ ⟨rfl, rfl⟩
  refine ev_call (av := [_, _]) rfl rfl rfl rfl ⟨Nat.le_of_ble_eq_true rfl, rfl⟩ ⟨Nat.le_of_ble_eq_true rfl, Nat.le_of_ble_eq_true rfl⟩ (x_value hr (by have := hq.2.1; omega)) ?_
  rintro _ _ ⟨rfl, rfl⟩
  refine ev_ps 4 rfl (ev_call (av := [_]) rfl rfl rfl rfl ⟨Nat.le_of_ble_eq_true rfl, rfl⟩ ⟨Nat.le_of_ble_eq_true rfl, Nat.le_of_ble_eq_true rfl⟩ (x_s hq) ?_)
  rintro _ _ ⟨rfl, rfl⟩
  refine ev_call (av := [_, _]) rfl rfl rfl rfl ⟨Nat.le_of_ble_eq_true rfl, rfl⟩ ⟨Nat.le_of_ble_eq_true rfl, Nat.le_of_ble_eq_true rfl⟩ (x_value hr (by have := hq.2.2.1; omega)) ?_
  rintro _ _ ⟨rfl, rfl⟩
  refine ev_ps 2 rfl (ev_call (av := [_]) rfl rfl rfl rfl ⟨Nat.le_of_ble_eq_true rfl, rfl⟩ ⟨Nat.le_of_ble_eq_true rfl, Nat.le_of_ble_eq_true rfl⟩ (x_op hq) ?_)
  rintro _ _ ⟨rfl, rfl⟩
  have b1 := hq.1
  unfold rz_jp
  generalize rz_pk q = code
  generalize T q.2.1 = xd
  generalize T q.2.2.1 = xe
  generalize q.1 = op at b1 ⊢
  rcases (show op = 0 ∨ op = 1 ∨ op = 2 ∨ op = 3 ∨ op = 4 ∨ op = 5 ∨ op = 6 ∨ op = 7 ∨ op = 8 ∨ op = 9 ∨ op = 10 ∨ op = 11 ∨ op = 12 ∨ op = 13 ∨ op = 14 ∨ op = 15 by omega) with rfl | rfl | rfl | rfl | rfl | rfl | rfl | rfl | rfl | rfl | rfl | rfl | rfl | rfl | rfl | rfl
  · exact ev_ps 2 rfl (ev_ret rfl rfl (rz_bx0 (fun z => z.elim (by omega) (fun z => z.elim (by omega) (by omega)))))
  · exact ev_ps 2 rfl (ev_ret rfl rfl (rz_bx0 (fun z => z.elim (by omega) (fun z => z.elim (by omega) (by omega)))))
  · exact ev_ps 2 rfl (ev_ret rfl rfl (rz_bx0 (fun z => z.elim (by omega) (fun z => z.elim (by omega) (by omega)))))
  · exact ev_ps 2 rfl (ev_ret rfl rfl (rz_bx0 (fun z => z.elim (by omega) (fun z => z.elim (by omega) (by omega)))))
  · exact ev_ps 2 rfl (ev_ret rfl rfl (rz_bx0 (fun z => z.elim (by omega) (fun z => z.elim (by omega) (by omega)))))
  · exact ev_ps 2 rfl (ev_ret rfl rfl (rz_bx0 (fun z => z.elim (by omega) (fun z => z.elim (by omega) (by omega)))))
  · exact ev_ps 2 rfl (ev_ret rfl rfl (rz_bx0 (fun z => z.elim (by omega) (fun z => z.elim (by omega) (by omega)))))
  · exact ev_ps 2 rfl (ev_ret rfl rfl (rz_bx0 (fun z => z.elim (by omega) (fun z => z.elim (by omega) (by omega)))))
  · exact ev_ps 2 rfl (ev_ret rfl rfl (rz_bx0 (fun z => z.elim (by omega) (fun z => z.elim (by omega) (by omega)))))
  · exact ev_ps 2 rfl (ev_ret rfl rfl (rz_bx0 (fun z => z.elim (by omega) (fun z => z.elim (by omega) (by omega)))))
  · exact ev_ps 2 rfl (ev_ret rfl rfl (rz_bx0 (fun z => z.elim (by omega) (fun z => z.elim (by omega) (by omega)))))
  · exact ev_ps 2 rfl (ev_ret rfl rfl (rz_bx0 (fun z => z.elim (by omega) (fun z => z.elim (by omega) (by omega)))))
  · refine ev_ps 3 rfl (ev_ic (cd := .ne) rfl (fun h1 => ?_) (fun h1 => ?_))
    · exact ev_ps 1 rfl (ev_ret rfl rfl (rz_bx0 (fun z => z.elim (by omega) (fun z => z.elim (fun z => rc_ne_t h1 z.2) (by omega)))))
    · exact ev_ps 2 rfl (ev_ret rfl rfl (rz_bx1 (Or.inr (Or.inl ⟨rfl, rc_ne_f h1⟩))))
  · refine ev_ps 3 rfl (ev_ic (cd := .eq) rfl (fun h1 => ?_) (fun h1 => ?_))
    · exact ev_ps 1 rfl (ev_ret rfl rfl (rz_bx0 (fun z => z.elim (by omega) (fun z => z.elim (by omega) (fun z => z.2 (rc_eq_t h1))))))
    · exact ev_ps 2 rfl (ev_ret rfl rfl (rz_bx1 (Or.inr (Or.inr ⟨rfl, rc_eq_f h1⟩))))
  · exact ev_ps 2 rfl (ev_ret rfl rfl (rz_bx1 (Or.inl rfl)))
  · exact ev_ps 2 rfl (ev_ret rfl rfl (rz_bx0 (fun z => z.elim (by omega) (fun z => z.elim (by omega) (by omega)))))
theorem x_regsAfter12 {u : Int32} (hq : rz_lg q) (h12 : 12 ≤ q.1) (hr : rz_rg u T) : rz_C xs xl 37 [.int (rz_pk q), .int u] w (fun z w' => z = .inl (some (.int u)) ∧ w' = w) := by
  refine ev_ps 1 rfl (ev_call (av := [_]) rfl rfl rfl rfl ⟨Nat.le_of_ble_eq_true rfl, rfl⟩ ⟨Nat.le_of_ble_eq_true rfl, Nat.le_of_ble_eq_true rfl⟩ (x_op hq) ?_)
  rintro _ _ ⟨rfl, rfl⟩
  refine ev_ps 3 rfl (ev_call (av := [_]) rfl rfl rfl rfl ⟨Nat.le_of_ble_eq_true rfl, rfl⟩ ⟨Nat.le_of_ble_eq_true rfl, Nat.le_of_ble_eq_true rfl⟩ (x_s hq) ?_)
  rintro _ _ ⟨rfl, rfl⟩
  refine ev_call (av := [_, _]) rfl rfl rfl rfl ⟨Nat.le_of_ble_eq_true rfl, rfl⟩ ⟨Nat.le_of_ble_eq_true rfl, Nat.le_of_ble_eq_true rfl⟩ (x_value hr (by have := hq.2.2.1; omega)) ?_
  rintro _ _ ⟨rfl, rfl⟩
  refine ev_ps 3 rfl (ev_ic (cd := .gt) rfl (fun h => ?_) (fun h => ?_))
  · refine ev_ps 1 rfl (ev_call (av := [_]) rfl rfl rfl rfl ⟨Nat.le_of_ble_eq_true rfl, rfl⟩ ⟨Nat.le_of_ble_eq_true rfl, Nat.le_of_ble_eq_true rfl⟩ (x_t hq) ?_)
    rintro _ _ ⟨rfl, rfl⟩
    have b1 := hq.1
    generalize rz_pk q = code
    generalize T q.2.2.1 = xe
    generalize Int32.ofNat q.2.2.2 = xt
    generalize q.1 = op at b1 h12 ⊢
    rcases (show op = 12 ∨ op = 13 ∨ op = 14 ∨ op = 15 by omega) with rfl | rfl | rfl | rfl
    · exact ev_ps 4 rfl (ev_ret rfl rfl ⟨rfl, rfl⟩)
    · exact ev_ps 4 rfl (ev_ret rfl rfl ⟨rfl, rfl⟩)
    · exact ev_ps 4 rfl (ev_ret rfl rfl ⟨rfl, rfl⟩)
    · exact ev_ps 4 rfl (ev_ret rfl rfl ⟨rfl, rfl⟩)
  · have b1 := hq.1
    have := rn_gt_f (k := 5) (by omega) (by omega) h
    omega
theorem rz_cell {i t : Nat} (hi : i ≤ 15) (ht : t ≤ 24) : Int32.ofNat i + Int32.ofNat t - (Int32.ofNat i + Int32.ofNat t) / 8 * 8 = Int32.ofNat ((i + t) % 8) := by
  rw [rz_add]
  have key : ∀ s, s < 47 → (Int32.ofNat s - Int32.ofNat s / 8 * 8) = Int32.ofNat (s % 8) := by decide +kernel
  exact key (i + t) (by omega)
theorem x_step (hq : rz_lg q) (hr : rz_rg (v 2) T) (hc : ∀ i, i < 8 → a 2 i = T (4 + i)) (hT : rz_sm T 12) (h3 : v 3 = Int32.ofNat P) : rz_C xs xl 63 [.ref 3, .int (rz_pk q)] (rz_w v a g) (fun z w' => z = .inl none ∧ ∃ u f, w' = rz_w (rz_up (rz_up v 2 u) 3 (Int32.ofNat (rz_np q T P))) (rz_ua a 2 f) g ∧ rz_rg u (rz_ex q T) ∧ ∀ i, i < 8 → f i = rz_ex q T (4 + i)) := by
  obtain ⟨i0, hi0, ei0⟩ := hT q.2.2.1 (by have := hq.2.2.1; omega)
  have hb := hq
  obtain ⟨b1, b2, b3, b4, b5⟩ := hb
  have hcx : rz_cx q T = (i0 + q.2.2.2) % 8 := by unfold rz_cx; rw [ei0, rz_clamp (by omega)]
  have hcl := rz_cx_lt (q := q) (T := T)
  have ecell : T q.2.2.1 + Int32.ofNat q.2.2.2 - (T q.2.2.1 + Int32.ofNat q.2.2.2) / 8 * 8 = Int32.ofNat (rz_cx q T) := by rw [ei0, hcx]; exact rz_cell hi0 b4
  have main : ∀ y : Int32, y = Int32.ofNat (rz_np q T P) → rz_E xs xl 63 22 [some (.ref 3), some (.int (rz_pk q)), none] [.int y, .ref 3] (rz_w v a g) 0 0 (fun z w' => z = .inl none ∧ ∃ u f, w' = rz_w (rz_up (rz_up v 2 u) 3 (Int32.ofNat (rz_np q T P))) (rz_ua a 2 f) g ∧ rz_rg u (rz_ex q T) ∧ ∀ i, i < 8 → f i = rz_ex q T (4 + i)) := by
    intro y hy
    subst hy
    refine ev_ps 1 rfl (ev_w (w2 := rz_w (rz_up v 3 (Int32.ofNat (rz_np q T P))) a g) rfl ?_)
    refine ev_ps 3 rfl (ev_call (av := [_]) rfl rfl rfl rfl ⟨Nat.le_of_ble_eq_true rfl, rfl⟩ ⟨Nat.le_of_ble_eq_true rfl, Nat.le_of_ble_eq_true rfl⟩ (x_s hq) ?_)
    rintro _ _ ⟨rfl, rfl⟩
    refine ev_call (av := [_, _]) rfl rfl rfl rfl ⟨Nat.le_of_ble_eq_true rfl, rfl⟩ ⟨Nat.le_of_ble_eq_true rfl, Nat.le_of_ble_eq_true rfl⟩ (x_value hr (by have := hq.2.2.1; omega)) ?_
    rintro _ _ ⟨rfl, rfl⟩
    refine ev_ps 1 rfl (ev_call (av := [_]) rfl rfl rfl rfl ⟨Nat.le_of_ble_eq_true rfl, rfl⟩ ⟨Nat.le_of_ble_eq_true rfl, Nat.le_of_ble_eq_true rfl⟩ (x_t hq) ?_)
    rintro _ _ ⟨rfl, rfl⟩
    refine ev_ps 4 rfl ?_
    refine ev_l (L2 := [some (.ref 3), some (.int (rz_pk q)), some (.int (Int32.ofNat (rz_cx q T)))]) (by rw [← ecell]; rfl) ?_
    refine ev_ps 1 rfl (ev_call (av := [_]) rfl rfl rfl rfl ⟨Nat.le_of_ble_eq_true rfl, rfl⟩ ⟨Nat.le_of_ble_eq_true rfl, Nat.le_of_ble_eq_true rfl⟩ (x_op hq) ?_)
    rintro _ _ ⟨rfl, rfl⟩
    refine ev_ps 1 rfl (ev_ic (cd := .ne) rfl (fun h1 => ?_) (fun h1 => ?_))
    · have n10 : ¬ q.1 = 10 := fun z => rc_ne_t h1 (by rw [z]; rfl)
      refine ev_ps 1 rfl (ev_call (av := [_]) rfl rfl rfl rfl ⟨Nat.le_of_ble_eq_true rfl, rfl⟩ ⟨Nat.le_of_ble_eq_true rfl, Nat.le_of_ble_eq_true rfl⟩ (x_op hq) ?_)
      rintro _ _ ⟨rfl, rfl⟩
      refine ev_ps 1 rfl (ev_ic (cd := .ne) rfl (fun h2 => ?_) (fun h2 => ?_))
      · have n11 : ¬ q.1 = 11 := fun z => rc_ne_t h2 (by rw [z]; rfl)
        by_cases h9 : q.1 ≤ 9
        · refine ev_ps 4 rfl (ev_call (av := [_, _]) rfl rfl rfl rfl ⟨Nat.le_of_ble_eq_true rfl, rfl⟩ ⟨Nat.le_of_ble_eq_true rfl, Nat.le_of_ble_eq_true rfl⟩ (x_regsAfter hq h9 hr) ?_)
          rintro _ _ ⟨⟨u, rfl, hu⟩, rfl⟩
          refine ev_ps 1 rfl (ev_ret rfl rfl ⟨rfl, u, a 2, rfl, ?_, fun i hi => ?_⟩)
          · rw [rz_ex_9 h9]
            exact ⟨(if_pos (by omega)).trans hu.1, fun k hk => (hu.2 k hk).trans (if_pos hk).symm⟩
          · rw [rz_ex_9 h9]
            exact (hc i hi).trans (if_neg (by omega)).symm
        · refine ev_ps 4 rfl (ev_call (av := [_, _]) rfl rfl rfl rfl ⟨Nat.le_of_ble_eq_true rfl, rfl⟩ ⟨Nat.le_of_ble_eq_true rfl, Nat.le_of_ble_eq_true rfl⟩ (x_regsAfter12 hq (by omega) hr) ?_)
          rintro _ _ ⟨rfl, rfl⟩
          refine ev_ps 1 rfl (ev_ret rfl rfl ⟨rfl, v 2, a 2, rfl, ?_, fun i hi => ?_⟩)
          · rw [rz_ex_12 (by omega)]; exact hr
          · rw [rz_ex_12 (by omega)]; exact hc i hi
      · have e11 : q.1 = 11 := (rz_eq_iff (k := 11) (by omega) (by omega)).mp (rc_ne_f h2)
        refine ev_ps 6 rfl (ev_call (av := [_]) rfl rfl rfl rfl ⟨Nat.le_of_ble_eq_true rfl, rfl⟩ ⟨Nat.le_of_ble_eq_true rfl, Nat.le_of_ble_eq_true rfl⟩ (x_d hq) ?_)
        rintro _ _ ⟨rfl, rfl⟩
        refine ev_call (av := [_, _]) rfl rfl rfl rfl ⟨Nat.le_of_ble_eq_true rfl, rfl⟩ ⟨Nat.le_of_ble_eq_true rfl, Nat.le_of_ble_eq_true rfl⟩ (x_value hr (by have := hq.2.1; omega)) ?_
        rintro _ _ ⟨rfl, rfl⟩
        refine ev_ast rfl rfl (rz_in (by omega) (by decide)) ?_
        rw [rz_clamp (k := rz_cx q T) (by omega)]
        refine ev_ps 1 rfl (ev_ret rfl rfl ⟨rfl, v 2, upd (a 2) (rz_cx q T) (T q.2.1), rfl, ?_, fun i hi => ?_⟩)
        · rw [rz_ex_11 e11]
          refine ⟨?_, fun k hk => ?_⟩
          · simp only [upd]; rw [if_neg (by omega)]; exact hr.1
          · simp only [upd]; rw [if_neg (by omega)]; exact hr.2 k hk
        · rw [rz_ex_11 e11]
          simp only [upd]
          by_cases hik : i = rz_cx q T
          · rw [if_pos hik, if_pos (by omega)]
          · rw [if_neg hik, if_neg (by omega)]; exact hc i hi
    · have e10 : q.1 = 10 := (rz_eq_iff (k := 10) (by omega) (by omega)).mp (rc_ne_f h1)
      refine ev_ps 4 rfl (ev_call (av := [_]) rfl rfl rfl rfl ⟨Nat.le_of_ble_eq_true rfl, rfl⟩ ⟨Nat.le_of_ble_eq_true rfl, Nat.le_of_ble_eq_true rfl⟩ (x_d hq) ?_)
      rintro _ _ ⟨rfl, rfl⟩
      refine ev_ps 3 rfl (ev_ald rfl rfl (rz_in (by omega) (by decide)) ?_)
      rw [rz_clamp (k := rz_cx q T) (by omega), hc _ hcl]
      refine ev_call (av := [_, _, _]) rfl rfl rfl rfl ⟨Nat.le_of_ble_eq_true rfl, rfl⟩ ⟨Nat.le_of_ble_eq_true rfl, Nat.le_of_ble_eq_true rfl⟩ (x_with _ _ _) ?_
      rintro _ _ ⟨rfl, rfl⟩
      obtain ⟨j, hj, ej⟩ := hT (4 + rz_cx q T) (by omega)
      have ey : T (4 + rz_cx q T) &&& 15 = T (4 + rz_cx q T) := by
        rw [ej]
        have key : ∀ j, j < 16 → Int32.ofNat j &&& 15 = Int32.ofNat j := by decide +kernel
        exact key j (by omega)
      refine ev_ps 2 rfl (ev_ret rfl rfl ⟨rfl, rz_wi (v 2) (Int32.ofNat q.2.1) (T (4 + rz_cx q T)), a 2, rfl, ?_, fun i hi => ?_⟩)
      · rw [rz_ex_10 e10]
        refine ⟨?_, fun k hk => ?_⟩
        · show (if 0 = q.2.1 then (if q.2.1 = 0 then 0 else T (4 + rz_cx q T)) else T 0) = 0
          by_cases h0 : q.2.1 = 0
          · rw [if_pos h0.symm, if_pos h0]
          · rw [if_neg (fun z => h0 z.symm)]; exact hr.1
        · show _ = (if k = q.2.1 then (if q.2.1 = 0 then 0 else T (4 + rz_cx q T)) else T k)
          rw [rz_wv (by omega) hk]
          by_cases hkd : k = q.2.1
          · by_cases h0 : q.2.1 = 0
            · rw [if_neg (fun z => z.2 h0), if_pos hkd, if_pos h0, hr.2 k hk, hkd, h0]
              exact hr.1
            · rw [if_pos ⟨hkd, h0⟩, if_pos hkd, if_neg h0, ey]
          · rw [if_neg (fun z => hkd z.1), if_neg hkd]
            exact hr.2 k hk
      · rw [rz_ex_10 e10]
        show _ = (if 4 + i = q.2.1 then (if q.2.1 = 0 then 0 else T (4 + rz_cx q T)) else T (4 + i))
        rw [if_neg (by omega)]
        exact hc i hi
  refine ev_ps 3 rfl (ev_call (av := [_, _]) rfl rfl rfl rfl ⟨Nat.le_of_ble_eq_true rfl, rfl⟩ ⟨Nat.le_of_ble_eq_true rfl, Nat.le_of_ble_eq_true rfl⟩ (x_jumps hq hr) ?_)
  rintro _ _ ⟨⟨u, hu, hui, rfl⟩, rfl⟩
  refine ev_if (cd := .eq) rfl (fun h1 => ?_) (fun h1 => ?_)
  · have hno : ¬ rz_jp q T := fun z => absurd ((rc_eq_t h1).symm.trans (hui.mpr z)) (by decide)
    refine ev_ps 4 rfl (main _ ?_)
    rw [rz_np, rz_dc_f hno, if_neg (by decide), ← rz_succ P, ← h3]
    rfl
  · have hyes : rz_jp q T := hui.mp (hu.resolve_left (rc_eq_f h1))
    refine ev_ps 1 rfl (ev_call (av := [_]) rfl rfl rfl rfl ⟨Nat.le_of_ble_eq_true rfl, rfl⟩ ⟨Nat.le_of_ble_eq_true rfl, Nat.le_of_ble_eq_true rfl⟩ (x_t hq) ?_)
    rintro _ _ ⟨rfl, rfl⟩
    refine ev_ps 1 rfl (main _ ?_)
    rw [rz_np, rz_dc_t hyes, if_pos rfl]
theorem rz_np_le {k : Nat} (hq : rz_lg q) (hk : k < 24) : rz_np q T k ≤ 24 := by
  unfold rz_np
  have := hq.2.2.2.1
  split <;> omega
theorem x_perform {x : Int32} (hC : rz_CC v a R n r b l) (hM : rz_CM v a S T P E) (hx : ¬ x < 0 ∧ ¬ 500 < x) : rz_C xs xl 62 [.ref 3, .ref 1, .int x] (rz_w v a g) (rz_PC v a (fun q _ v' a' => q = .inl (some (.int (Int32.ofNat (rz_rn R n x.toNatClampNeg S 0 (rz_e0 n) 0).2.2.2))) ∧ rz_CM v' a' S (rz_rn R n x.toNatClampNeg S 0 (rz_e0 n) 0).1 (rz_rn R n x.toNatClampNeg S 0 (rz_e0 n) 0).2.1 (rz_rn R n x.toNatClampNeg S 0 (rz_e0 n) 0).2.2.1) R n r b l) := by
  obtain ⟨m, hm, rfl⟩ := rz_le_nat (b := 500) (by decide) hx.1 hx.2
  rw [rz_clamp (k := m) (by omega)]
  have hn := hC.1
  have hv := hC.2.1
  generalize hfin : rz_rn R n m S 0 (rz_e0 n) 0 = F
  have loop : ∀ (u : Int32) (f : Nat → Int32) (e : Int32), e = rz_e0 n → rz_rg u S → (∀ i, i < 8 → f i = S (4 + i)) → rz_E xs xl 62 50 [some (.ref 3), some (.ref 1), some (.int (Int32.ofNat m)), some (.int (Int32.ofNat 0)), none] [] (rz_w (rz_up (rz_up (rz_up v 2 u) 3 (Int32.ofNat 0)) 4 e) (rz_ua a 2 f) g) 0 0 (rz_PC v a (fun q _ v' a' => q = .inl (some (.int (Int32.ofNat F.2.2.2))) ∧ rz_CM v' a' S F.1 F.2.1 F.2.2.1) R n r b l) := by
    intro u f e he hu hf
    refine ev_loop (α := Nat × Option Value × Int32 × Nat × Int32 × (Nat → Int32) × (Nat → Int32)) (fun t => m - t.1) (fun t => t.1 ≤ m ∧ (t.2.2.2.2.1 = 0 ∨ t.2.2.2.2.1 = 1) ∧ (t.2.2.2.2.1 = 0 → t.2.2.2.1 < n) ∧ t.2.2.2.1 ≤ 24 ∧ rz_rg t.2.2.1 t.2.2.2.2.2.2 ∧ (∀ i, i < 8 → t.2.2.2.2.2.1 i = t.2.2.2.2.2.2 (4 + i)) ∧ rz_sm t.2.2.2.2.2.2 12 ∧ rz_rn R n (m - t.1) t.2.2.2.2.2.2 t.2.2.2.1 t.2.2.2.2.1 t.1 = F) (fun t => [some (.ref 3), some (.ref 1), some (.int (Int32.ofNat m)), some (.int (Int32.ofNat t.1)), t.2.1]) (fun _ => []) (fun t => rz_w (rz_up (rz_up (rz_up v 2 t.2.2.1) 3 (Int32.ofNat t.2.2.2.1)) 4 t.2.2.2.2.1) (rz_ua a 2 t.2.2.2.2.2.1) g) ?_ (0, none, u, 0, e, f, S) ⟨Nat.zero_le _, by show e = 0 ∨ e = 1; rw [he, rz_e0]; split <;> simp, fun z => by
        have z' : e = 0 := z
        rw [he, rz_e0] at z'
        rcases Nat.eq_zero_or_pos n with h0 | h0
        · rw [if_pos (by omega)] at z'; exact absurd z' (by decide)
        · exact h0, by show 0 ≤ 24; omega, hu, hf, hM.1.2.2, by show rz_rn R n (m - 0) S 0 e 0 = F; rw [he]; exact hfin⟩
    clear he hu hf
    clear u f e
    rintro ⟨k, t, u, p, e, f, Tk⟩ ⟨hk, he, hp, hp24, hu, hf, hTk, hrn⟩ ih
    dsimp only at hk he hp hp24 hu hf hTk hrn ih ⊢
    have done : rz_rn R n (m - k) Tk p e k = (Tk, p, e, k) → rz_PC v a (fun q _ v' a' => q = .inl (some (.int (Int32.ofNat F.2.2.2))) ∧ rz_CM v' a' S F.1 F.2.1 F.2.2.1) R n r b l (.inl (some (.int (Int32.ofNat k)))) (rz_w (rz_up (rz_up (rz_up v 2 u) 3 (Int32.ofNat p)) 4 e) (rz_ua a 2 f) g) := fun z => by
      rw [← hrn, z]
      exact ⟨rz_up (rz_up (rz_up v 2 u) 3 (Int32.ofNat p)) 4 e, rz_ua a 2 f, g, ⟨rfl, hM.1, ⟨hu, hf, hTk⟩, rfl, hp24, rfl, he⟩, rfl, (((rz_cf.rf.up (by decide) u).up (by decide) _).up (by decide) e).ua (by decide) f, hC⟩
    refine ev_ps 2 rfl (ev_ic (cd := .ge) rfl (fun h => ?_) (fun h => ?_))
    · have hkm : m ≤ k := rn_ge_t (by omega) (by omega) h
      exact ev_ps 1 rfl (ev_ret rfl rfl (done (by rw [show m - k = 0 by omega]; rfl)))
    have hk' : k < m := rn_ge_f (by omega) (by omega) h
    refine ev_ps 2 rfl (ev_if (cd := .ne) rfl (fun h1 => ?_) (fun h1 => ?_))
    · exact ev_ps 1 rfl (ev_ret rfl rfl (done (rz_rn_end (rc_ne_t h1))))
    have he0 : e = 0 := rc_ne_f h1
    have hpn := hp he0
    have hlg := hC.2.2.2.1 p hpn
    have hnp := rz_np_le (T := Tk) hlg (show p < 24 by omega)
    refine ev_ps 3 rfl (ev_call (av := [_, _]) rfl rfl rfl rfl ⟨Nat.le_of_ble_eq_true rfl, rfl⟩ ⟨Nat.le_of_ble_eq_true rfl, Nat.le_of_ble_eq_true rfl⟩ (y_codeAt (by omega)) ?_)
    rintro _ _ ⟨rfl, rfl⟩
    rw [show rz_ua a 2 f 0 p = rz_pk (R p) from hC.2.2.1 p hpn]
    refine ev_ps 3 rfl (ev_call (av := [_, _]) rfl rfl rfl rfl ⟨Nat.le_of_ble_eq_true rfl, rfl⟩ ⟨Nat.le_of_ble_eq_true rfl, Nat.le_of_ble_eq_true rfl⟩ (x_step (v := rz_up (rz_up (rz_up v 2 u) 3 (Int32.ofNat p)) 4 e) (a := rz_ua a 2 f) hlg hu hf hTk rfl) ?_)
    rintro _ _ ⟨rfl, u2, f2, rfl, hu2, hf2⟩
    refine ev_w (w2 := rz_w (rz_up (rz_up (rz_up v 2 u2) 3 (Int32.ofNat (rz_np (R p) Tk p))) 4 e) (rz_ua a 2 f2) g) rfl ?_
    have next : ∀ (e2 : Int32), e2 = rz_en n (R p) (rz_np (R p) Tk p) → rz_E xs xl 62 105 [some (.ref 3), some (.ref 1), some (.int (Int32.ofNat m)), some (.int (Int32.ofNat k)), some (.int (rz_pk (R p)))] [.int e2, .ref 3] (rz_w (rz_up (rz_up (rz_up v 2 u2) 3 (Int32.ofNat (rz_np (R p) Tk p))) 4 e) (rz_ua a 2 f2) g) 0 0 (rz_PC v a (fun q _ v' a' => q = .inl (some (.int (Int32.ofNat F.2.2.2))) ∧ rz_CM v' a' S F.1 F.2.1 F.2.2.1) R n r b l) := by
      intro e2 he2
      have he3 : e2 = 0 ∨ e2 = 1 := by rw [he2, rz_en]; split <;> simp
      have h9 := ih (k + 1, some (.int (rz_pk (R p))), u2, rz_np (R p) Tk p, e2, f2, rz_ex (R p) Tk) ⟨by show k + 1 ≤ m; omega, he3, fun z => by
        have z' : e2 = 0 := z
        rw [he2, rz_en] at z'
        rcases Nat.lt_or_ge (rz_np (R p) Tk p) n with h0 | h0
        · exact h0
        · rw [if_pos (Or.inr h0)] at z'; exact absurd z' (by decide), hnp, hu2, hf2, rz_ex_sm hlg hTk, by
        show rz_rn R n (m - (k + 1)) (rz_ex (R p) Tk) (rz_np (R p) Tk p) e2 (k + 1) = F
        rw [← hrn, show m - k = (m - (k + 1)) + 1 by omega, rz_rn, if_pos he0, he2]⟩ (by show m - (k + 1) < m - k; omega)
      dsimp only at h9
      rw [← rz_succ k] at h9
      refine ev_put rfl rfl (Nat.le_of_ble_eq_true rfl) (by show decide (e2 = 0 ∨ e2 = 1) = true; exact decide_eq_true he3) ?_
      exact ev_w (w2 := rz_w (rz_up (rz_up (rz_up v 2 u2) 3 (Int32.ofNat (rz_np (R p) Tk p))) 4 e2) (rz_ua a 2 f2) g) rfl (ev_ps 2 rfl h9)
    refine ev_ps 2 rfl (ev_call (av := [_]) rfl rfl rfl rfl ⟨Nat.le_of_ble_eq_true rfl, rfl⟩ ⟨Nat.le_of_ble_eq_true rfl, Nat.le_of_ble_eq_true rfl⟩ (x_op hlg) ?_)
    rintro _ _ ⟨rfl, rfl⟩
    refine ev_ps 1 rfl (ev_ic (cd := .eq) rfl (fun h2 => ?_) (fun h2 => ?_))
    · have e15 : (R p).1 = 15 := (rz_eq_iff (k := 15) (by have := hlg.1; omega) (by omega)).mp (rc_eq_t h2)
      exact ev_ps 2 rfl (next 1 (by rw [rz_en, if_pos (Or.inl e15)]))
    · have n15 : ¬ (R p).1 = 15 := fun z => rc_eq_f h2 (by rw [z]; rfl)
      refine ev_ps 3 rfl (ev_call (av := [_, _]) rfl rfl rfl rfl ⟨Nat.le_of_ble_eq_true rfl, rfl⟩ ⟨Nat.le_of_ble_eq_true rfl, Nat.le_of_ble_eq_true rfl⟩ (y_has _) ?_)
      rintro _ _ ⟨⟨z, hz, hzi, rfl⟩, rfl⟩
      have hzi' : z = 1 ↔ (¬ Int32.ofNat (rz_np (R p) Tk p) < 0 ∧ Int32.ofNat (rz_np (R p) Tk p) < v 0) := hzi
      rw [hv, rz_lt_iff (k := n) (by omega) (by omega)] at hzi'
      refine ev_if (cd := .ne) rfl (fun h3 => ?_) (fun h3 => ?_)
      · have h4 := (hzi'.mp (hz.resolve_left (rc_ne_t h3))).2
        exact ev_ps 1 rfl (next 0 (by rw [rz_en, if_neg (fun z => z.elim n15 (fun z => by omega))]))
      · have h4 : ¬ rz_np (R p) Tk p < n := fun y => absurd ((rc_ne_f h3).symm.trans (hzi'.mpr ⟨fun q => absurd ((rz_lt_iff (k := 0) (by omega) (by omega)).mp q) (by omega), y⟩)) (by decide)
        exact ev_ps 2 rfl (next 1 (by rw [rz_en, if_pos (Or.inr (by omega))]))
  refine ev_ps 4 rfl (ev_w (w2 := rz_w (rz_up v 2 (v 1)) a g) rfl ?_)
  refine ev_ps 7 rfl (ev_cpy rfl rfl rfl (by decide) ?_)
  refine ev_w (w2 := rz_w (rz_up v 2 (v 1)) (rz_ua a 2 (va_cpy (a 1) (a 2) 0 0 8)) g) rfl ?_
  have hcp : ∀ i, i < 8 → va_cpy (a 1) (a 2) 0 0 8 i = S (4 + i) := fun i hi => by
    rw [← hM.1.2.1 i hi]
    unfold va_cpy
    simp [hi]
  refine ev_ps 3 rfl (ev_w (w2 := rz_w (rz_up (rz_up (rz_up v 2 (v 1)) 3 0) 4 (v 4)) (rz_ua a 2 (va_cpy (a 1) (a 2) 0 0 8)) g) rfl ?_)
  have fin : ∀ e2 : Int32, e2 = rz_e0 n → rz_E xs xl 62 45 [some (.ref 3), some (.ref 1), some (.int (Int32.ofNat m)), none, none] [.int e2, .ref 3] (rz_w (rz_up (rz_up (rz_up v 2 (v 1)) 3 0) 4 (v 4)) (rz_ua a 2 (va_cpy (a 1) (a 2) 0 0 8)) g) 0 0 (rz_PC v a (fun q _ v' a' => q = .inl (some (.int (Int32.ofNat F.2.2.2))) ∧ rz_CM v' a' S F.1 F.2.1 F.2.2.1) R n r b l) := by
    intro e2 he2
    have he3 : e2 = 0 ∨ e2 = 1 := by rw [he2, rz_e0]; split <;> simp
    refine ev_put rfl rfl (Nat.le_of_ble_eq_true rfl) (by show decide (e2 = 0 ∨ e2 = 1) = true; exact decide_eq_true he3) ?_
    exact ev_w (w2 := rz_w (rz_up (rz_up (rz_up v 2 (v 1)) 3 (Int32.ofNat 0)) 4 e2) (rz_ua a 2 (va_cpy (a 1) (a 2) 0 0 8)) g) rfl (ev_ps 2 rfl (loop _ _ e2 he2 hM.1.1 hcp))
  refine ev_ps 4 rfl (ev_call (av := [_, _]) rfl rfl rfl rfl ⟨Nat.le_of_ble_eq_true rfl, rfl⟩ ⟨Nat.le_of_ble_eq_true rfl, Nat.le_of_ble_eq_true rfl⟩ (y_has _) ?_)
  rintro _ _ ⟨⟨z, hz, hzi, rfl⟩, rfl⟩
  have hzi' : z = 1 ↔ (¬ (0 : Int32) < 0 ∧ (0 : Int32) < v 0) := hzi
  rw [hv, show ((0 : Int32) < Int32.ofNat n) = (Int32.ofNat 0 < Int32.ofNat n) from rfl, rz_lt_iff (by omega) (by omega)] at hzi'
  refine ev_if (cd := .ne) rfl (fun h3 => ?_) (fun h3 => ?_)
  · have h4 := (hzi'.mp (hz.resolve_left (rc_ne_t h3))).2
    exact ev_ps 1 rfl (fin 0 (by rw [rz_e0, if_neg (by omega)]))
  · have h4 : ¬ 0 < n := fun y => absurd ((rc_ne_f h3).symm.trans (hzi'.mpr ⟨by decide, y⟩)) (by decide)
    exact ev_ps 2 rfl (fin 1 (by rw [rz_e0, if_pos (by omega)]))
end RZZ3
/-! the reference's machine, exactly -/
section RZZ4
variable {xs : Nat → Int32} {xl : Nat} {v : Nat → Int32} {a : Nat → Nat → Int32} {g : Nat → Int64} {R : Nat → rz_Q} {n r b l P : Nat} {w : rz_W} {S T : Nat → Int32} {q : rz_Q} {E : Int32}
theorem m_executeX {k : Nat} (hR : rz_RR v a R n r b l) (hk : k < n) (hT : ∀ i, i < 12 → a 25 i = T i) (hsm : rz_sm T 12) : rz_C xs xl 81 [.ref 25, .int (Int32.ofNat k)] (rz_w v a g) (fun q' w' => q' = .inl none ∧ ∃ f f2 : Nat → Int32, w' = rz_w (rz_up v 23 (Int32.ofNat (rz_np (R k) T k))) (rz_ua (rz_ua a 27 f) 25 f2) g ∧ ∀ i, i < 12 → f2 i = rz_ex (R k) T i) := by
  have hn := hR.1
  have hq := hR.2.2.2.1 k hk
  obtain ⟨ho0, hd0, hs0, ht0⟩ := hR.2.2.1 k hk
  obtain ⟨b1, b2, b3, b4, b5⟩ := id hq
  have e := rz_clamp (k := k) (by omega)
  have ho : a 20 (Int32.ofNat k).toNatClampNeg = Int32.ofNat (R k).1 := by rw [e]; exact ho0
  have hd : a 21 (Int32.ofNat k).toNatClampNeg = Int32.ofNat (R k).2.1 := by rw [e]; exact hd0
  have hs : a 22 (Int32.ofNat k).toNatClampNeg = Int32.ofNat (R k).2.2.1 := by rw [e]; exact hs0
  have ht : a 23 (Int32.ofNat k).toNatClampNeg = Int32.ofNat (R k).2.2.2 := by rw [e]; exact ht0
  have hin : ¬ (Int32.ofNat k < 0 ∨ 25 ≤ (Int32.ofNat k).toNatClampNeg) := rz_in (by omega) (by decide)
  have hcl := rz_cx_lt (q := R k) (T := T)
  have back : ∀ (x3 J : Int32) (f f2 : Nat → Int32), J = Int32.ofNat (rz_np (R k) T k) → (∀ i, i < 4 → f i = rz_ex (R k) T i) → (∀ i, 4 ≤ i → i < 12 → f2 i = rz_ex (R k) T i) → rz_E xs xl 81 220 [some (.ref 25), some (.int (Int32.ofNat k)), some (.int (a 20 (Int32.ofNat k).toNatClampNeg)), some (.int x3), none] [] (rz_w (rz_up v 23 J) (rz_ua (rz_ua a 27 f) 25 f2) g) 0 0 (fun q' w' => q' = .inl none ∧ ∃ f f2 : Nat → Int32, w' = rz_w (rz_up v 23 (Int32.ofNat (rz_np (R k) T k))) (rz_ua (rz_ua a 27 f) 25 f2) g ∧ ∀ i, i < 12 → f2 i = rz_ex (R k) T i) := by
    intro x3 J f f2 hJ hf hf2
    subst hJ
    refine ev_ps 2 rfl ?_
    refine ev_loop (α := Nat × (Nat → Int32)) (fun r => 4 - r.1) (fun r => r.1 ≤ 4 ∧ (∀ i, i < r.1 → r.2 i = rz_ex (R k) T i) ∧ ∀ i, 4 ≤ i → i < 12 → r.2 i = rz_ex (R k) T i) (fun r => [some (.ref 25), some (.int (Int32.ofNat k)), some (.int (a 20 (Int32.ofNat k).toNatClampNeg)), some (.int x3), some (.int (Int32.ofNat r.1))]) (fun _ => []) (fun r => rz_w (rz_up v 23 (Int32.ofNat (rz_np (R k) T k))) (rz_ua (rz_ua a 27 f) 25 r.2) g) ?_ (0, f2) ⟨Nat.zero_le _, fun i hi => absurd hi (Nat.not_lt_zero _), hf2⟩
    clear hf2
    clear f2
    rintro ⟨i, f2⟩ ⟨hi, hlow, hf2⟩ ih
    dsimp only at hi hlow hf2 ih ⊢
    refine ev_ps 2 rfl (ev_ic (cd := .ge) rfl (fun h => ?_) (fun h => ?_))
    · have h4 : 4 ≤ i := rn_ge_t (k := 4) (by omega) (by omega) h
      refine ev_ret rfl rfl ⟨rfl, f, f2, rfl, fun j hj => ?_⟩
      rcases Nat.lt_or_ge j 4 with h | h
      · exact hlow j (by omega)
      · exact hf2 j h hj
    · have hi' : i < 4 := rn_ge_f (k := 4) (by omega) (by omega) h
      have ei := rz_clamp (k := i) (by omega)
      refine ev_ps 6 rfl (ev_ald rfl rfl (rz_in hi' (by decide)) ?_)
      refine ev_ast rfl rfl (rz_in (by omega) (by decide)) ?_
      have h9 := ih (i + 1, upd f2 i (f i)) ⟨by show i + 1 ≤ 4; omega, fun j hj => by
        by_cases hji : j = i
        · rw [hji]; simp only [upd, if_true]; exact hf i hi'
        · simp only [upd, hji, if_false]; exact hlow j (by have : j < i + 1 := hj; omega), fun j h1 h2 => by
        simp only [upd]
        rw [if_neg (by omega)]; exact hf2 j h1 h2⟩ (by show 4 - (i + 1) < 4 - i; omega)
      dsimp only at h9
      rw [← rz_succ i] at h9
      refine ev_w (w2 := rz_w (rz_up v 23 (Int32.ofNat (rz_np (R k) T k))) (rz_ua (rz_ua a 27 f) 25 (upd f2 i (f i))) g) ?_ (ev_ps 2 rfl h9)
      rw [ei]
      rfl
  have mid : ∀ (f : Nat → Int32) (t3 : Option Value), (∀ i, i < 4 → f i = T i) → rz_E xs xl 81 39 [some (.ref 25), some (.int (Int32.ofNat k)), some (.int (a 20 (Int32.ofNat k).toNatClampNeg)), t3, none] [] (rz_w (rz_up v 23 (Int32.ofNat (k + 1))) (rz_ua a 27 f) g) 0 0 (fun q' w' => q' = .inl none ∧ ∃ f f2 : Nat → Int32, w' = rz_w (rz_up v 23 (Int32.ofNat (rz_np (R k) T k))) (rz_ua (rz_ua a 27 f) 25 f2) g ∧ ∀ i, i < 12 → f2 i = rz_ex (R k) T i) := by
    intro f t3 hf
    obtain ⟨i, hi, ei⟩ := hsm (R k).2.2.1 (by omega)
    have hcx : rz_cx (R k) T = (i + (R k).2.2.2) % 8 := by unfold rz_cx; rw [ei, rz_clamp (by omega)]
    have ec : 4 + (Int32.ofNat i + Int32.ofNat (R k).2.2.2 - (Int32.ofNat i + Int32.ofNat (R k).2.2.2) / 8 * 8) = Int32.ofNat (4 + rz_cx (R k) T) := by
      rw [rz_cell hi b4, hcx]
      exact rz_add 4 _
    have es : a 25 (a 22 (Int32.ofNat k).toNatClampNeg).toNatClampNeg = Int32.ofNat i := by rw [hs, rz_clamp (by omega), hT _ (by omega)]; exact ei
    refine ev_ps 6 rfl (ev_ald rfl rfl hin ?_)
    refine ev_ald rfl rfl (by rw [show (rz_ua a 27 f) 22 = a 22 from rfl, hs]; exact rz_in (by omega) (by decide)) ?_
    refine ev_ps 3 rfl (ev_ald rfl rfl hin ?_)
    refine ev_ps 5 rfl ?_
    refine ev_l (L2 := [some (.ref 25), some (.int (Int32.ofNat k)), some (.int (a 20 (Int32.ofNat k).toNatClampNeg)), some (.int (Int32.ofNat (4 + rz_cx (R k) T))), none]) ?_ ?_
    · rw [← ec, ← es, ← ht]; rfl
    have same : rz_w (rz_up v 23 (Int32.ofNat (k + 1))) (rz_ua a 27 f) g = rz_w (rz_up v 23 (Int32.ofNat (k + 1))) (rz_ua (rz_ua a 27 f) 25 (a 25)) g := rfl
    have np1 : ¬ rz_jp (R k) T → Int32.ofNat (k + 1) = Int32.ofNat (rz_np (R k) T k) := fun h => by rw [rz_np, rz_dc_f h, if_neg (by decide)]
    have stay : 12 ≤ (R k).1 → ¬ rz_jp (R k) T → rz_E xs xl 81 220 [some (.ref 25), some (.int (Int32.ofNat k)), some (.int (a 20 (Int32.ofNat k).toNatClampNeg)), some (.int (Int32.ofNat (4 + rz_cx (R k) T))), none] [] (rz_w (rz_up v 23 (Int32.ofNat (k + 1))) (rz_ua a 27 f) g) 0 0 (fun q' w' => q' = .inl none ∧ ∃ f f2 : Nat → Int32, w' = rz_w (rz_up v 23 (Int32.ofNat (rz_np (R k) T k))) (rz_ua (rz_ua a 27 f) 25 f2) g ∧ ∀ i, i < 12 → f2 i = rz_ex (R k) T i) := fun h12 hno =>
      ev_w same (back _ _ f (a 25) (np1 hno) (fun i hi => by rw [rz_ex_12 h12]; exact hf i hi) (fun i _ hi => by rw [rz_ex_12 h12]; exact hT i hi))
    have jump : 12 ≤ (R k).1 → rz_jp (R k) T → rz_E xs xl 81 210 [some (.ref 25), some (.int (Int32.ofNat k)), some (.int (a 20 (Int32.ofNat k).toNatClampNeg)), some (.int (Int32.ofNat (4 + rz_cx (R k) T))), none] [] (rz_w (rz_up v 23 (Int32.ofNat (k + 1))) (rz_ua a 27 f) g) 0 0 (fun q' w' => q' = .inl none ∧ ∃ f f2 : Nat → Int32, w' = rz_w (rz_up v 23 (Int32.ofNat (rz_np (R k) T k))) (rz_ua (rz_ua a 27 f) 25 f2) g ∧ ∀ i, i < 12 → f2 i = rz_ex (R k) T i) := by
      intro h12 hyes
      refine ev_ps 4 rfl (ev_ald rfl rfl hin ?_)
      refine ev_ps 1 rfl (ev_w (w2 := rz_w (rz_up v 23 (Int32.ofNat (R k).2.2.2)) (rz_ua (rz_ua a 27 f) 25 (a 25)) g) ?_ (back _ _ f (a 25) (by rw [rz_np, rz_dc_t hyes, if_pos rfl]) (fun i hi => by rw [rz_ex_12 h12]; exact hf i hi) (fun i _ hi => by rw [rz_ex_12 h12]; exact hT i hi)))
      rw [← ht]; rfl
    have hd2 : ¬ (a 21 (Int32.ofNat k).toNatClampNeg < 0 ∨ 12 ≤ (a 21 (Int32.ofNat k).toNatClampNeg).toNatClampNeg) := by rw [hd]; exact rz_in (by omega) (by decide)
    have hs2 : ¬ (a 22 (Int32.ofNat k).toNatClampNeg < 0 ∨ 12 ≤ (a 22 (Int32.ofNat k).toNatClampNeg).toNatClampNeg) := by rw [hs]; exact rz_in (by omega) (by decide)
    have ed : a 25 (a 21 (Int32.ofNat k).toNatClampNeg).toNatClampNeg = T (R k).2.1 := by rw [hd, rz_clamp (by omega)]; exact hT _ (by omega)
    have es2 : a 25 (a 22 (Int32.ofNat k).toNatClampNeg).toNatClampNeg = T (R k).2.2.1 := by rw [hs, rz_clamp (by omega)]; exact hT _ (by omega)
    have opi : ∀ c, c < 16 → (a 20 (Int32.ofNat k).toNatClampNeg = Int32.ofNat c ↔ (R k).1 = c) := fun c hc => by rw [ho]; exact rz_eq_iff (by omega) (by omega)
    refine ev_ps 2 rfl (ev_ic (cd := .gt) rfl (fun h => ?_) (fun h => ?_))
    · have h9 : 9 < (R k).1 := by
        have h9 := rc_gt_t h
        rw [ho] at h9
        exact (rz_lt_iff (n := 9) (by omega) (by omega)).mp h9
      refine ev_ps 2 rfl (ev_ic (cd := .ne) rfl (fun h => ?_) (fun h => ?_))
      · have n10 : ¬ (R k).1 = 10 := fun z => rc_ne_t h ((opi 10 (by omega)).mpr z)
        refine ev_ps 2 rfl (ev_ic (cd := .ne) rfl (fun h => ?_) (fun h => ?_))
        · have n11 : ¬ (R k).1 = 11 := fun z => rc_ne_t h ((opi 11 (by omega)).mpr z)
          have h12 : 12 ≤ (R k).1 := by omega
          have later : ¬ ((R k).1 = 12 ∧ T (R k).2.1 = T (R k).2.2.1) → rz_E xs xl 81 173 [some (.ref 25), some (.int (Int32.ofNat k)), some (.int (a 20 (Int32.ofNat k).toNatClampNeg)), some (.int (Int32.ofNat (4 + rz_cx (R k) T))), none] [] (rz_w (rz_up v 23 (Int32.ofNat (k + 1))) (rz_ua a 27 f) g) 0 0 (fun q' w' => q' = .inl none ∧ ∃ f f2 : Nat → Int32, w' = rz_w (rz_up v 23 (Int32.ofNat (rz_np (R k) T k))) (rz_ua (rz_ua a 27 f) 25 f2) g ∧ ∀ i, i < 12 → f2 i = rz_ex (R k) T i) := by
            intro no12
            have last : ¬ ((R k).1 = 13 ∧ ¬ T (R k).2.1 = T (R k).2.2.1) → rz_E xs xl 81 204 [some (.ref 25), some (.int (Int32.ofNat k)), some (.int (a 20 (Int32.ofNat k).toNatClampNeg)), some (.int (Int32.ofNat (4 + rz_cx (R k) T))), none] [] (rz_w (rz_up v 23 (Int32.ofNat (k + 1))) (rz_ua a 27 f) g) 0 0 (fun q' w' => q' = .inl none ∧ ∃ f f2 : Nat → Int32, w' = rz_w (rz_up v 23 (Int32.ofNat (rz_np (R k) T k))) (rz_ua (rz_ua a 27 f) 25 f2) g ∧ ∀ i, i < 12 → f2 i = rz_ex (R k) T i) := fun no13 =>
              ev_ps 2 rfl (ev_ic (cd := .ne) rfl (fun h => stay h12 (fun z => z.elim (fun z => rc_ne_t h ((opi 14 (by omega)).mpr z)) (fun z => z.elim no12 no13))) (fun h => jump h12 (Or.inl ((opi 14 (by omega)).mp (rc_ne_f h)))))
            refine ev_ps 2 rfl (ev_ic (cd := .ne) rfl (fun h => last (fun z => rc_ne_t h ((opi 13 (by omega)).mpr z.1))) (fun h => ?_))
            have e13 := (opi 13 (by omega)).mp (rc_ne_f h)
            refine ev_ps 5 rfl (ev_ald rfl rfl hin (ev_ald rfl rfl hd2 ?_))
            refine ev_ps 5 rfl (ev_ald rfl rfl hin (ev_ald rfl rfl hs2 ?_))
            refine ev_ic (cd := .ne) rfl (fun h => jump h12 (Or.inr (Or.inr ⟨e13, fun z => rc_ne_t h ?_⟩))) (fun h => last (fun z => z.2 ?_))
            · exact ed.trans (z.trans es2.symm)
            · exact ed.symm.trans ((rc_ne_f h).trans es2)
          refine ev_ps 2 rfl (ev_ic (cd := .ne) rfl (fun h => later (fun z => rc_ne_t h ((opi 12 (by omega)).mpr z.1))) (fun h => ?_))
          have e12 := (opi 12 (by omega)).mp (rc_ne_f h)
          refine ev_ps 5 rfl (ev_ald rfl rfl hin (ev_ald rfl rfl hd2 ?_))
          refine ev_ps 5 rfl (ev_ald rfl rfl hin (ev_ald rfl rfl hs2 ?_))
          refine ev_ic (cd := .eq) rfl (fun h => jump h12 (Or.inr (Or.inl ⟨e12, ?_⟩))) (fun h => later (fun z => rc_eq_f h ?_))
          · exact ed.symm.trans ((rc_eq_t h).trans es2)
          · exact ed.trans (z.2.trans es2.symm)
        · have e11 := (opi 11 (by omega)).mp (rc_ne_f h)
          have hno : ¬ rz_jp (R k) T := fun z => z.elim (by omega) (fun z => z.elim (by omega) (by omega))
          refine ev_ps 8 rfl (ev_ald rfl rfl hin (ev_ald rfl rfl hd2 ?_))
          refine ev_ast rfl rfl (rz_in (by omega) (by decide)) ?_
          refine ev_w (w2 := rz_w (rz_up v 23 (Int32.ofNat (k + 1))) (rz_ua (rz_ua a 27 f) 25 (upd (a 25) (4 + rz_cx (R k) T) (T (R k).2.1))) g) ?_ (ev_ps 1 rfl (back _ _ f _ (np1 hno) (fun i hi => ?_) (fun i h4 hi => ?_)))
          · rw [← ed, rz_clamp (k := 4 + rz_cx (R k) T) (by omega)]; rfl
          · rw [rz_ex_11 e11]; simp only [upd]; rw [if_neg (by omega)]; exact hf i hi
          · rw [rz_ex_11 e11]; simp only [upd]
            by_cases hic : i = 4 + rz_cx (R k) T
            · rw [if_pos hic, if_pos hic]
            · rw [if_neg hic, if_neg hic]; exact hT i hi
      · have e10 := (opi 10 (by omega)).mp (rc_ne_f h)
        have hno : ¬ rz_jp (R k) T := fun z => z.elim (by omega) (fun z => z.elim (by omega) (by omega))
        have fin : ∀ y : Int32, y = (if (R k).2.1 = 0 then 0 else T (4 + rz_cx (R k) T)) → rz_E xs xl 81 112 [some (.ref 25), some (.int (Int32.ofNat k)), some (.int (a 20 (Int32.ofNat k).toNatClampNeg)), some (.int (Int32.ofNat (4 + rz_cx (R k) T))), none] [.int y, .int (Int32.ofNat (R k).2.1), .ref 33] (rz_w (rz_up v 23 (Int32.ofNat (k + 1))) (rz_ua a 27 f) g) 0 0 (fun q' w' => q' = .inl none ∧ ∃ f f2 : Nat → Int32, w' = rz_w (rz_up v 23 (Int32.ofNat (rz_np (R k) T k))) (rz_ua (rz_ua a 27 f) 25 f2) g ∧ ∀ i, i < 12 → f2 i = rz_ex (R k) T i) := by
          intro y hy
          refine ev_ast rfl rfl (rz_in (by omega) (by decide)) ?_
          refine ev_w (w2 := rz_w (rz_up v 23 (Int32.ofNat (k + 1))) (rz_ua (rz_ua a 27 (upd f (R k).2.1 y)) 25 (a 25)) g) (by rw [rz_clamp (k := (R k).2.1) (by omega)]; rfl) (ev_ps 1 rfl (back _ _ _ (a 25) (np1 hno) (fun i hi => ?_) (fun i h4 hi => ?_)))
          · rw [rz_ex_10 e10]
            simp only [upd]
            by_cases hid : i = (R k).2.1
            · rw [if_pos hid, if_pos hid]; exact hy
            · rw [if_neg hid, if_neg hid]; exact hf i hi
          · rw [rz_ex_10 e10]
            show _ = (if i = (R k).2.1 then (if (R k).2.1 = 0 then 0 else T (4 + rz_cx (R k) T)) else T i)
            rw [if_neg (by omega)]; exact hT i hi
        refine ev_ps 5 rfl (ev_ald rfl rfl hin ?_)
        refine ev_ps 3 rfl (ev_ald rfl rfl hin ?_)
        rw [show (rz_ua a 27 f) 21 = a 21 from rfl, hd]
        refine ev_if (cd := .ne) rfl (fun h => ?_) (fun h => ?_)
        · refine ev_ps 3 rfl (ev_ald rfl rfl (rz_in (by omega) (by decide)) ?_)
          rw [show (rz_ua a 27 f) 25 = a 25 from rfl, rz_clamp (k := 4 + rz_cx (R k) T) (by omega), hT _ (by omega)]
          exact fin _ (by rw [if_neg (fun z => rc_ne_t h (by rw [z]; rfl))])
        · have h0 : (R k).2.1 = 0 := (rz_eq_iff (k := 0) (by omega) (by omega)).mp (rc_ne_f h)
          exact ev_ps 2 rfl (fin 0 (by rw [if_pos h0]))
    · have h9 : (R k).1 ≤ 9 := by
        have h9 := rc_gt_f h
        rw [ho] at h9
        exact Nat.not_lt.mp fun z => h9 ((rz_lt_iff (n := 9) (by omega) (by omega)).mpr z)
      have hno : ¬ rz_jp (R k) T := fun z => z.elim (by omega) (fun z => z.elim (by omega) (by omega))
      refine ev_ps 2 rfl (ev_call (av := [_, _]) rfl rfl rfl rfl ⟨Nat.le_of_ble_eq_true rfl, rfl⟩ ⟨Nat.le_of_ble_eq_true rfl, Nat.le_of_ble_eq_true rfl⟩ (m_doesX (a := rz_ua a 27 f) (by omega) (rz_pr_rw hR.2.2.1 hR.2.2.2.1 hk)) ?_)
      rintro _ _ ⟨rfl, rfl⟩
      refine ev_w (w2 := rz_w (rz_up v 23 (Int32.ofNat (k + 1))) (rz_ua (rz_ua a 27 (rz_sp (R k) f)) 25 (a 25)) g) rfl (ev_ps 1 rfl (back _ _ _ (a 25) (np1 hno) (fun i hi => ?_) (fun i h4 hi => ?_)))
      · rw [rz_ex_9 h9]
        exact (rz_sp_cg hq hf i hi).trans (if_pos hi).symm
      · rw [rz_ex_9 h9]
        exact (hT i hi).trans (if_neg (by omega)).symm
  refine ev_ps 3 rfl (ev_ald rfl rfl hin ?_)
  refine ev_ps 6 rfl (ev_w (w2 := rz_w (rz_up v 23 (Int32.ofNat (k + 1))) (rz_ua a 27 (a 27)) g) (by rw [← rz_succ]; rfl) ?_)
  refine ev_ps 2 rfl ?_
  refine ev_loop (α := Nat × (Nat → Int32)) (fun r => 4 - r.1) (fun r => r.1 ≤ 4 ∧ ∀ i, i < r.1 → r.2 i = T i) (fun r => [some (.ref 25), some (.int (Int32.ofNat k)), some (.int (a 20 (Int32.ofNat k).toNatClampNeg)), some (.int (Int32.ofNat r.1)), none]) (fun _ => []) (fun r => rz_w (rz_up v 23 (Int32.ofNat (k + 1))) (rz_ua a 27 r.2) g) ?_ (0, a 27) ⟨Nat.zero_le _, fun j hj => absurd hj (Nat.not_lt_zero _)⟩
  rintro ⟨i, f⟩ ⟨hi, hf⟩ ih
  dsimp only at hi hf ih ⊢
  refine ev_ps 2 rfl (ev_ic (cd := .ge) rfl (fun h => ?_) (fun h => ?_))
  · have h4 : 4 ≤ i := rn_ge_t (k := 4) (by omega) (by omega) h
    have : i = 4 := by omega
    subst this
    exact mid f _ hf
  · have hi' : i < 4 := rn_ge_f (k := 4) (by omega) (by omega) h
    have ei := rz_clamp (k := i) (by omega)
    refine ev_ps 6 rfl (ev_ald rfl rfl (rz_in (by omega) (by decide)) ?_)
    refine ev_ast rfl rfl (rz_in hi' (by decide)) ?_
    have h9 := ih (i + 1, upd f i (T i)) ⟨by show i + 1 ≤ 4; omega, fun j hj => by
      by_cases hji : j = i
      · simp [upd, hji]
      · simp only [upd, hji, if_false]; exact hf j (by have : j < i + 1 := hj; omega)⟩ (by show 4 - (i + 1) < 4 - i; omega)
    dsimp only at h9
    rw [← rz_succ i] at h9
    refine ev_w (w2 := rz_w (rz_up v 23 (Int32.ofNat (k + 1))) (rz_ua a 27 (upd f i (T i))) g) ?_ (ev_ps 2 rfl h9)
    rw [ei, ← hT i (by omega)]; rfl
theorem m_runY (hR : rz_RR v a R n r b l) (hM : rz_RM v a S T P E) (hS : rz_sm S 12) (x : Int32) : rz_C xs xl 80 [.ref 25, .int x] (rz_w v a g) (rz_PM v a g (fun q v' a' => q = .inl (some (.int (if rz_krn x = 0 then Int32.ofNat (rz_frr R n S T P E x).2.2.2 else 0))) ∧ v' 20 = rz_krn x ∧ rz_RM v' a' S (rz_frr R n S T P E x).1 (rz_frr R n S T P E x).2.1 (rz_frr R n S T P E x).2.2.1) R n r b l) := by
  have hn := hR.1
  have hv := hR.2.1
  refine ev_ps 4 rfl (ev_call (av := [_, _, _]) rfl rfl rfl rfl ⟨Nat.le_of_ble_eq_true rfl, rfl⟩ ⟨Nat.le_of_ble_eq_true rfl, Nat.le_of_ble_eq_true rfl⟩ (m_in _ _ _) ?_)
  rintro _ _ ⟨⟨u2, h2, rfl⟩, rfl⟩
  have h2' : (u2 = 1 ∧ ¬ x < 0 ∧ ¬ 500 < x) ∨ (u2 = 0 ∧ ¬ (¬ x < 0 ∧ ¬ 500 < x)) := h2
  refine ev_if (cd := .eq) rfl (fun e2 => ?_) (fun e2 => ?_)
  · have hno : ¬ (¬ x < 0 ∧ ¬ 500 < x) := h2'.elim (fun z => absurd ((rc_eq_t e2).symm.trans z.1) (by decide)) (fun z => z.2)
    have ek : rz_krn x = 1 := by rw [rz_krn, rz_dc_f hno]; rfl
    rw [rz_frr, ek]
    refine ev_ps 2 rfl (ev_w (w2 := rz_w (rz_up v 20 1) a g) rfl ?_)
    refine ev_ps 2 rfl (ev_if (cd := .eq) rfl (fun h => absurd (rc_eq_t h) (show ¬ (1 : Int32) = 0 by decide)) (fun h => ?_))
    exact ev_ps 1 rfl (ev_ret rfl rfl ⟨_, _, rfl, ⟨rfl, rfl, hM⟩, rz_mf.rf.up (by omega) _, hR⟩)
  have hin := (h2'.resolve_right (fun q => rc_eq_f e2 q.1)).2
  have ek : rz_krn x = 0 := by rw [rz_krn, rz_dc_t hin, if_pos rfl]
  rw [rz_frr, ek, if_pos rfl, if_pos rfl]
  obtain ⟨m, hm, rfl⟩ := rz_le_nat (b := 500) (by decide) hin.1 hin.2
  rw [rz_clamp (k := m) (by omega)]
  generalize hfin : rz_rn R n m S 0 (rz_e0 n) 0 = F
  refine ev_ps 3 rfl (ev_w (w2 := rz_w (rz_up v 20 0) a g) rfl ?_)
  refine ev_ps 2 rfl (ev_if (cd := .eq) rfl (fun h => ?_) (fun h => absurd rfl (rc_eq_f h)))
  have hsmf : ∀ {f2 Tk : Nat → Int32}, (∀ i, i < 12 → f2 i = Tk i) → rz_sm Tk 12 → rz_sm f2 12 := fun h1 h2 i hi => by rw [h1 i hi]; exact h2 i hi
  have fin : ∀ (e j : Int32) (f f2 Tk : Nat → Int32), (∀ i, i < 12 → f2 i = Tk i) → rz_sm Tk 12 → rz_mf v a (rz_up (rz_up (rz_up v 20 0) 22 e) 23 j) (rz_ua (rz_ua a 27 f) 25 f2) ∧ rz_RR (rz_up (rz_up (rz_up v 20 0) 22 e) 23 j) (rz_ua (rz_ua a 27 f) 25 f2) R n r b l := fun e j f f2 Tk h1 h2 =>
    ⟨((((rz_mf.rf.up (by omega) _).up (by omega) _).up (by omega) _).ua (by omega) _).ua (by omega) _, hR.1, hR.2.1, hR.2.2.1, hR.2.2.2.1, hR.2.2.2.2.1, hR.2.2.2.2.2.1, hsmf h1 h2, hR.2.2.2.2.2.2.2⟩
  have loop : ∀ (e : Int32) (t3 : Option Value) (f f2 : Nat → Int32), e = rz_e0 n → (∀ i, i < 12 → f2 i = S i) → rz_E xs xl 80 82 [some (.ref 25), some (.int (Int32.ofNat m)), some (.int (Int32.ofNat 0)), t3] [] (rz_w (rz_up (rz_up (rz_up v 20 0) 22 e) 23 (Int32.ofNat 0)) (rz_ua (rz_ua a 27 f) 25 f2) g) 0 0 (rz_PM v a g (fun q v' a' => q = .inl (some (.int (Int32.ofNat F.2.2.2))) ∧ v' 20 = 0 ∧ rz_RM v' a' S F.1 F.2.1 F.2.2.1) R n r b l) := by
    intro e t3 f f2 he hf2
    refine ev_loop (α := Nat × Int32 × Option Value × Nat × (Nat → Int32) × (Nat → Int32) × (Nat → Int32)) (fun r => m - r.1) (fun r => r.1 ≤ m ∧ (r.2.1 = 0 → r.2.2.2.1 < n) ∧ (∀ i, i < 12 → r.2.2.2.2.2.1 i = r.2.2.2.2.2.2 i) ∧ rz_sm r.2.2.2.2.2.2 12 ∧ rz_rn R n (m - r.1) r.2.2.2.2.2.2 r.2.2.2.1 r.2.1 r.1 = F) (fun r => [some (.ref 25), some (.int (Int32.ofNat m)), some (.int (Int32.ofNat r.1)), r.2.2.1]) (fun _ => []) (fun r => rz_w (rz_up (rz_up (rz_up v 20 0) 22 r.2.1) 23 (Int32.ofNat r.2.2.2.1)) (rz_ua (rz_ua a 27 r.2.2.2.2.1) 25 r.2.2.2.2.2.1) g) ?_ (0, e, t3, 0, f, f2, S) ⟨Nat.zero_le _, fun z => by
      have z' : e = 0 := z
      rw [he, rz_e0] at z'
      rcases Nat.eq_zero_or_pos n with h0 | h0
      · rw [if_pos (by omega)] at z'; exact absurd z' (by decide)
      · exact h0, hf2, hS, by show rz_rn R n (m - 0) S 0 e 0 = F; rw [he]; exact hfin⟩
    clear he hf2
    clear e t3 f f2
    rintro ⟨k, e, t3, j, f, f2, Tk⟩ ⟨hk, he, hf2, hTk, hrn⟩ ih
    dsimp only at hk he hf2 hTk hrn ih ⊢
    obtain ⟨m1, m2⟩ := fin e (Int32.ofNat j) f f2 Tk hf2 hTk
    have done : rz_rn R n (m - k) Tk j e k = (Tk, j, e, k) → (rz_PM v a g (fun q v' a' => q = .inl (some (.int (Int32.ofNat F.2.2.2))) ∧ v' 20 = 0 ∧ rz_RM v' a' S F.1 F.2.1 F.2.2.1) R n r b l) (.inl (some (.int (Int32.ofNat k)))) (rz_w (rz_up (rz_up (rz_up v 20 0) 22 e) 23 (Int32.ofNat j)) (rz_ua (rz_ua a 27 f) 25 f2) g) := fun z => by
      rw [← hrn, z]
      exact ⟨_, _, rfl, ⟨rfl, rfl, hM.1, hf2, rfl, rfl⟩, m1, m2⟩
    refine ev_ps 2 rfl (ev_if (cd := .ne) rfl (fun h => ?_) (fun h => ?_))
    · exact ev_ps 1 rfl (ev_ret rfl rfl (done (rz_rn_end (rc_ne_t h))))
    have he0 : e = 0 := rc_ne_f h
    refine ev_ps 2 rfl (ev_ic (cd := .ge) rfl (fun h1 => ?_) (fun h1 => ?_))
    · have hkm : m ≤ k := rn_ge_t (by omega) (by omega) h1
      exact ev_ps 1 rfl (ev_ret rfl rfl (done (by rw [show m - k = 0 by omega]; rfl)))
    have hk' : k < m := rn_ge_f (by omega) (by omega) h1
    have hj : j < n := he he0
    have hlg := hR.2.2.2.1 j hj
    have hnp := rz_np_le (T := Tk) hlg (show j < 24 by omega)
    refine ev_ps 5 rfl (ev_call (av := [_, _]) rfl rfl rfl rfl ⟨Nat.le_of_ble_eq_true rfl, rfl⟩ ⟨Nat.le_of_ble_eq_true rfl, Nat.le_of_ble_eq_true rfl⟩ (m_executeX (v := rz_up (rz_up (rz_up v 20 0) 22 e) 23 (Int32.ofNat j)) (a := rz_ua (rz_ua a 27 f) 25 f2) (T := Tk) m2 hj hf2 hTk) ?_)
    rintro _ _ ⟨rfl, f3, f4, rfl, hf4⟩
    refine ev_w (w2 := rz_w (rz_up (rz_up (rz_up v 20 0) 22 e) 23 (Int32.ofNat (rz_np (R j) Tk j))) (rz_ua (rz_ua a 27 f3) 25 f4) g) rfl ?_
    have next : ∀ e2 : Int32, e2 = rz_en n (R j) (rz_np (R j) Tk j) → rz_E xs xl 80 135 [some (.ref 25), some (.int (Int32.ofNat m)), some (.int (Int32.ofNat k + Int32.ofInt 1)), some (.int (Int32.ofNat j))] [.int e2, .ref 25] (rz_w (rz_up (rz_up (rz_up v 20 0) 22 e) 23 (Int32.ofNat (rz_np (R j) Tk j))) (rz_ua (rz_ua a 27 f3) 25 f4) g) 0 0 (rz_PM v a g (fun q v' a' => q = .inl (some (.int (Int32.ofNat F.2.2.2))) ∧ v' 20 = 0 ∧ rz_RM v' a' S F.1 F.2.1 F.2.2.1) R n r b l) := by
      intro e3 he3
      have h9 := ih (k + 1, e3, some (.int (Int32.ofNat j)), rz_np (R j) Tk j, f3, f4, rz_ex (R j) Tk) ⟨by show k + 1 ≤ m; omega, fun z => by
        have z' : e3 = 0 := z
        rw [he3, rz_en] at z'
        rcases Nat.lt_or_ge (rz_np (R j) Tk j) n with h0 | h0
        · exact h0
        · rw [if_pos (Or.inr h0)] at z'; exact absurd z' (by decide), hf4, rz_ex_sm hlg hTk, by
        show rz_rn R n (m - (k + 1)) (rz_ex (R j) Tk) (rz_np (R j) Tk j) e3 (k + 1) = F
        rw [← hrn, show m - k = (m - (k + 1)) + 1 by omega, rz_rn, if_pos he0, he3]⟩ (by show m - (k + 1) < m - k; omega)
      dsimp only at h9
      rw [← rz_succ k] at h9
      exact ev_ps 1 rfl (ev_w (w2 := rz_w (rz_up (rz_up (rz_up v 20 0) 22 e3) 23 (Int32.ofNat (rz_np (R j) Tk j))) (rz_ua (rz_ua a 27 f3) 25 f4) g) rfl (ev_ps 1 rfl h9))
    refine ev_ps 5 rfl (ev_ald rfl rfl (rz_in (by omega) (by decide)) ?_)
    have eop : a 20 (Int32.ofNat j).toNatClampNeg = Int32.ofNat (R j).1 := by rw [rz_clamp (by omega)]; exact (hR.2.2.1 j hj).1
    refine ev_ps 1 rfl (ev_ic (cd := .eq) rfl (fun h5 => ?_) (fun h5 => ?_))
    · have e15 : (R j).1 = 15 := (rz_eq_iff (k := 15) (by have := hlg.1; omega) (by omega)).mp (eop.symm.trans (rc_eq_t h5))
      exact ev_ps 2 rfl (next 1 (by rw [rz_en, if_pos (Or.inl e15)]))
    · have n15 : ¬ (R j).1 = 15 := fun z => rc_eq_f h5 (eop.trans (by rw [z]; rfl))
      refine ev_ps 4 rfl (ev_ic (cd := .lt) rfl (fun h6 => ?_) (fun h6 => ?_))
      · have h6' : rz_cmp .lt (Int32.ofNat (rz_np (R j) Tk j)) (v 21) = true := h6
        rw [hv] at h6'
        have h7 := rn_lt_t (by omega) (by omega) h6'
        exact ev_ps 1 rfl (next 0 (by rw [rz_en, if_neg (fun z => z.elim n15 (fun z => by omega))]))
      · have h6' : rz_cmp .lt (Int32.ofNat (rz_np (R j) Tk j)) (v 21) = false := h6
        rw [hv] at h6'
        have h7 := rn_lt_f (by omega) (by omega) h6'
        exact ev_ps 2 rfl (next 1 (by rw [rz_en, if_pos (Or.inr h7)]))
  refine ev_ps 2 rfl (ev_w (w2 := rz_w (rz_up v 20 0) (rz_ua a 25 (a 25)) g) rfl ?_)
  refine ev_loop (α := Nat × (Nat → Int32)) (fun r => 12 - r.1) (fun r => r.1 ≤ 12 ∧ ∀ i, i < r.1 → r.2 i = S i) (fun r => [some (.ref 25), some (.int (Int32.ofNat m)), some (.int (Int32.ofNat r.1)), none]) (fun _ => []) (fun r => rz_w (rz_up v 20 0) (rz_ua a 25 r.2) g) ?_ (0, a 25) ⟨Nat.zero_le _, fun i hi => absurd hi (Nat.not_lt_zero _)⟩
  rintro ⟨k, f2⟩ ⟨hk, hf2⟩ ih
  dsimp only at hk hf2 ih ⊢
  refine ev_ps 2 rfl (ev_ic (cd := .ge) rfl (fun h => ?_) (fun h => ?_))
  · have h12 : 12 ≤ k := rn_ge_t (k := 12) (by omega) (by omega) h
    refine ev_ps 3 rfl (ev_w (w2 := rz_w (rz_up (rz_up (rz_up v 20 0) 22 (v 22)) 23 0) (rz_ua (rz_ua a 27 (a 27)) 25 f2) g) rfl ?_)
    have go : ∀ e2 : Int32, e2 = rz_e0 n → rz_E xs xl 80 77 [some (.ref 25), some (.int (Int32.ofNat m)), some (.int (Int32.ofNat k)), none] [.int e2, .ref 25] (rz_w (rz_up (rz_up (rz_up v 20 0) 22 (v 22)) 23 0) (rz_ua (rz_ua a 27 (a 27)) 25 f2) g) 0 0 (rz_PM v a g (fun q v' a' => q = .inl (some (.int (Int32.ofNat F.2.2.2))) ∧ v' 20 = 0 ∧ rz_RM v' a' S F.1 F.2.1 F.2.2.1) R n r b l) := by
      intro e3 he3
      exact ev_ps 1 rfl (ev_w (w2 := rz_w (rz_up (rz_up (rz_up v 20 0) 22 e3) 23 (Int32.ofNat 0)) (rz_ua (rz_ua a 27 (a 27)) 25 f2) g) rfl (ev_ps 2 rfl (loop e3 _ _ f2 he3 (fun i hi => hf2 i (by omega)))))
    refine ev_ps 5 rfl (ev_ic (cd := .lt) rfl (fun h6 => ?_) (fun h6 => ?_))
    · have h6' : rz_cmp .lt (Int32.ofNat 0) (v 21) = true := h6
      rw [hv] at h6'
      have h7 := rn_lt_t (by omega) (by omega) h6'
      exact ev_ps 1 rfl (go 0 (by rw [rz_e0, if_neg (by omega)]))
    · have h6' : rz_cmp .lt (Int32.ofNat 0) (v 21) = false := h6
      rw [hv] at h6'
      have h7 := rn_lt_f (by omega) (by omega) h6'
      exact ev_ps 2 rfl (go 1 (by rw [rz_e0, if_pos h7]))
  · have hk' : k < 12 := rn_ge_f (k := 12) (by omega) (by omega) h
    have ei := rz_clamp (k := k) (by omega)
    refine ev_ps 6 rfl (ev_ald rfl rfl (rz_in hk' (by decide)) ?_)
    refine ev_ast rfl rfl (rz_in hk' (by decide)) ?_
    have h9 := ih (k + 1, upd f2 k (S k)) ⟨by show k + 1 ≤ 12; omega, fun j hj => by
      by_cases hjk : j = k
      · simp [upd, hjk]
      · simp only [upd, hjk, if_false]; exact hf2 j (by have : j < k + 1 := hj; omega)⟩ (by show 12 - (k + 1) < 12 - k; omega)
    dsimp only at h9
    rw [← rz_succ k] at h9
    refine ev_w (w2 := rz_w (rz_up v 20 0) (rz_ua a 25 (upd f2 k (S k))) g) ?_ (ev_ps 2 rfl h9)
    rw [ei, ← hM.1 k hk']; rfl
end RZZ4
/-! what is asked of the machine, exactly -/
section RZZ5
variable {xs : Nat → Int32} {xl : Nat} {v : Nat → Int32} {a : Nat → Nat → Int32} {g : Nat → Int64} {R : Nat → rz_Q} {n r b l P : Nat} {w : rz_W} {S T : Nat → Int32} {q : rz_Q} {E : Int32}
theorem p_startY (hC : rz_CC v a R n r b l) (hM : rz_CM v a S T P E) (x y : Int32) : rz_C xs xl 59 [.ref 0, .int x, .int y] (rz_w v a g) (rz_PC v a (fun q _ v' a' => ((q = .inl none ∧ rz_sok x y) ∨ (q = .inr 0 ∧ ¬ rz_sok x y)) ∧ rz_CM v' a' (rz_stt S x y) T P E) R n r b l) := by
  have bad : ¬ rz_sok x y → (rz_PC v a (fun q _ v' a' => ((q = .inl none ∧ rz_sok x y) ∨ (q = .inr 0 ∧ ¬ rz_sok x y)) ∧ rz_CM v' a' (rz_stt S x y) T P E) R n r b l) (.inr 0) (rz_w v a g) := fun h => ⟨v, a, g, ⟨Or.inr ⟨rfl, h⟩, by
    have e : rz_stt S x y = S := by rw [rz_stt, rz_dc_f h]; rfl
    rw [e]; exact hM⟩, rfl, rz_cf.rf, hC⟩
  refine ev_ps 2 rfl (ev_ic (cd := .lt) rfl (fun h1 => ?_) (fun h1 => ?_))
  · exact ev_thr rfl ⟨Nat.le_of_ble_eq_true rfl, Nat.le_of_ble_eq_true rfl⟩ (bad (fun q => q.1 (rc_lt_t h1)))
  refine ev_ps 2 rfl (ev_ic (cd := .ge) rfl (fun h2 => ?_) (fun h2 => ?_))
  · exact ev_thr rfl ⟨Nat.le_of_ble_eq_true rfl, Nat.le_of_ble_eq_true rfl⟩ (bad (fun q => Int32.not_le.mpr q.2.1 (rc_ge_t h2)))
  refine ev_ps 1 rfl (ev_if (cd := .lt) rfl (fun h3 => ?_) (fun h3 => ?_))
  · exact ev_thr rfl ⟨Nat.le_of_ble_eq_true rfl, Nat.le_of_ble_eq_true rfl⟩ (bad (fun q => q.2.2.1 (rc_lt_t h3)))
  refine ev_ps 2 rfl (ev_ic (cd := .le) rfl (fun h4 => ?_) (fun h4 => ?_))
  · have hx : x < 12 := Int32.not_le.mp (rc_ge_f h2)
    have hok : rz_sok x y := ⟨rc_lt_f h1, hx, rc_lt_f h3, Int32.not_lt.mpr (rc_le_t h4)⟩
    obtain ⟨k, hk, rfl⟩ := rz_idx (n := 12) (by decide) (fun h => rc_lt_f h1 (Int32.lt_trans h (by decide))) hx
    have hk1 : 1 ≤ k := Nat.not_lt.mp fun z => rc_lt_f h1 ((rz_lt_iff (k := 1) (by omega) (by omega)).mpr z)
    have e : rz_stt S (Int32.ofNat k) y = upd S k y := by rw [rz_stt, rz_dc_t hok, if_pos rfl, rz_clamp (by omega)]
    rw [e]
    refine ev_ps 4 rfl (ev_call (av := [_, _, _]) rfl rfl rfl rfl ⟨Nat.le_of_ble_eq_true rfl, rfl⟩ ⟨Nat.le_of_ble_eq_true rfl, Nat.le_of_ble_eq_true rfl⟩ (x_setStart hk1 hk hok.2.2 hM.1.1 hM.1.2.1) ?_)
    rintro _ _ ⟨rfl, u, f, rfl, hu, hf⟩
    exact ev_ret rfl rfl ⟨rz_up v 1 u, rz_ua a 1 f, g, ⟨Or.inl ⟨rfl, hok⟩, ⟨hu, hf, rz_sm_S hM.1.2.2 hok.2.2⟩, hM.2⟩, rfl, (rz_cf.rf.up (by decide) u).ua (by decide) f, hC⟩
  · exact ev_thr rfl ⟨Nat.le_of_ble_eq_true rfl, Nat.le_of_ble_eq_true rfl⟩ (bad (fun q => q.2.2.2 (Int32.not_le.mp (rc_le_f h4))))
theorem l_startY (hC : rz_CC v a R n r b l) (hM : rz_CM v a S T P E) (x y : Int32) : rz_C xs xl 107 [.ref 0, .int x, .int y] (rz_w v a g) (rz_PC v a (fun q _ v' a' => rz_pi q ∧ rz_CM v' a' (rz_stt S x y) T P E) R n r b l) := by
  refine ev_ps 3 rfl (ev_call (av := [_, _, _]) rfl rfl rfl rfl ⟨Nat.le_of_ble_eq_true rfl, rfl⟩ ⟨Nat.le_of_ble_eq_true rfl, Nat.le_of_ble_eq_true rfl⟩ (p_startY hC hM _ _) ?_)
  rintro _ _ ⟨v2, a2, g2, ⟨⟨rfl, hs⟩ | ⟨rfl, hs⟩, hM2⟩, rfl, h1, h2⟩
  · exact ev_ps 2 rfl (ev_ret rfl rfl ⟨_, _, _, ⟨⟨_, rfl⟩, hM2⟩, rfl, h1, h2⟩)
  · exact ⟨10, 3, rfl, ev_ps 1 rfl (ev_ret rfl rfl ⟨_, _, _, ⟨⟨_, rfl⟩, hM2⟩, rfl, h1, h2⟩)⟩
theorem p_runY (hC : rz_CC v a R n r b l) (hM : rz_CM v a S T P E) (x : Int32) : rz_C xs xl 61 [.ref 0, .int x] (rz_w v a g) (rz_PC v a (fun q _ v' a' => ((rz_krn x = 0 ∧ q = .inl (some (.int (Int32.ofNat (rz_frr R n S T P E x).2.2.2)))) ∨ (rz_krn x = 1 ∧ q = .inr 0)) ∧ rz_CM v' a' S (rz_frr R n S T P E x).1 (rz_frr R n S T P E x).2.1 (rz_frr R n S T P E x).2.2.1) R n r b l) := by
  have bad : ¬ (¬ x < 0 ∧ ¬ 500 < x) → (rz_PC v a (fun q _ v' a' => ((rz_krn x = 0 ∧ q = .inl (some (.int (Int32.ofNat (rz_frr R n S T P E x).2.2.2)))) ∨ (rz_krn x = 1 ∧ q = .inr 0)) ∧ rz_CM v' a' S (rz_frr R n S T P E x).1 (rz_frr R n S T P E x).2.1 (rz_frr R n S T P E x).2.2.1) R n r b l) (.inr 0) (rz_w v a g) := fun h => by
    have e : rz_krn x = 1 := by rw [rz_krn, rz_dc_f h]; rfl
    rw [rz_frr, e]
    exact ⟨v, a, g, ⟨Or.inr ⟨rfl, rfl⟩, hM⟩, rfl, rz_cf.rf, hC⟩
  refine ev_ps 1 rfl (ev_if (cd := .lt) rfl (fun h => ?_) (fun h => ?_))
  · exact ev_thr rfl ⟨Nat.le_of_ble_eq_true rfl, Nat.le_of_ble_eq_true rfl⟩ (bad (fun z => z.1 (rc_lt_t h)))
  refine ev_ps 2 rfl (ev_ic (cd := .le) rfl (fun h2 => ?_) (fun h2 => ?_))
  · have hin : ¬ x < 0 ∧ ¬ 500 < x := ⟨rc_lt_f h, Int32.not_lt.mpr (rc_le_t h2)⟩
    have e : rz_krn x = 0 := by rw [rz_krn, rz_dc_t hin, if_pos rfl]
    rw [rz_frr, e, if_pos rfl]
    refine ev_ps 5 rfl (ev_call (av := [_, _, _]) rfl rfl rfl rfl ⟨Nat.le_of_ble_eq_true rfl, rfl⟩ ⟨Nat.le_of_ble_eq_true rfl, Nat.le_of_ble_eq_true rfl⟩ (x_perform hC hM hin) ?_)
    rintro _ _ ⟨v2, a2, g2, ⟨rfl, hM2⟩, rfl, h1, h2⟩
    exact ev_ret rfl rfl ⟨_, _, g2, ⟨Or.inl ⟨rfl, rfl⟩, hM2⟩, rfl, h1, h2⟩
  · exact ev_thr rfl ⟨Nat.le_of_ble_eq_true rfl, Nat.le_of_ble_eq_true rfl⟩ (bad (fun z => z.2 (Int32.not_le.mp (rc_le_f h2))))
theorem l_runY (hC : rz_CC v a R n r b l) (hM : rz_CM v a S T P E) (x : Int32) : rz_C xs xl 108 [.ref 0, .int x, .ref 35] (rz_w v a g) (rz_PC v a (fun q g' v' a' => q = .inl (some (.int (rz_krn x))) ∧ (rz_krn x = 0 → g' 0 = (Int32.ofNat (rz_frr R n S T P E x).2.2.2).toInt64) ∧ rz_CM v' a' S (rz_frr R n S T P E x).1 (rz_frr R n S T P E x).2.1 (rz_frr R n S T P E x).2.2.1) R n r b l) := by
  refine ev_ps 4 rfl (ev_call (av := [_, _]) rfl rfl rfl rfl ⟨Nat.le_of_ble_eq_true rfl, rfl⟩ ⟨Nat.le_of_ble_eq_true rfl, Nat.le_of_ble_eq_true rfl⟩ (p_runY hC hM _) ?_)
  rintro _ _ ⟨v2, a2, g2, ⟨hor, hM2⟩, rfl, h1, h2⟩
  generalize rz_frr R n S T P E x = F at hor hM2 ⊢
  generalize rz_krn x = kk at hor ⊢
  rcases hor with ⟨rfl, rfl⟩ | ⟨rfl, rfl⟩
  · exact ev_ps 4 rfl (ev_ret rfl rfl ⟨_, _, _, ⟨rfl, fun _ => rfl, hM2⟩, rfl, h1, h2⟩)
  · exact ⟨13, 3, rfl, ev_ps 1 rfl (ev_ret rfl rfl ⟨_, _, _, ⟨rfl, fun z => absurd z (by decide), hM2⟩, rfl, h1, h2⟩)⟩
theorem ev_lswd {M pc : Nat} {L : rz_L} {st : List Value} {kc ks : Nat} {post : rz_R → rz_W → Prop} {d : Int} {ps : Array (Int × Int)} {len x y z : Nat} {u : Int32} (hc : rz_code M pc = some (0, .lookupswitch d ps, len, x, y, z)) (hu : Op.lookupswitch.offset ps.toList d u.toInt = d) (k : rz_E xs xl M (rz_tg pc d) L st w kc ks post) : rz_E xs xl M pc L (.int u :: st) w kc ks post := by
  refine ev_p hc rfl ?_
  rw [hu]
  exact k
theorem x_outcome (hM : rz_CM v a S T P E) (x : Int32) : rz_C xs xl 6 [.ref 3, .int x] (rz_w v a g) (fun q w' => q = .inl (some (.int (rz_rs T P E x))) ∧ w' = rz_w v a g) := by
  obtain ⟨-, ⟨hr, hc, hsm⟩, h3, -, h4, hE⟩ := hM
  by_cases e12 : x = 12
  · subst e12
    refine ev_ps 15 rfl (ev_if (cd := .eq) rfl (fun h1 => ?_) (fun h1 => ?_))
    · exact ev_ps 1 rfl (ev_ret rfl rfl ⟨by rw [rz_rs, if_pos rfl, ← h4, rc_eq_t h1]; rfl, rfl⟩)
    · have hv4 : v 4 = 1 := h4.trans (hE.resolve_left (fun z => rc_eq_f h1 (h4.trans z)))
      exact ev_ps 2 rfl (ev_ret rfl rfl ⟨by rw [rz_rs, if_pos rfl, ← h4, hv4]; rfl, rfl⟩)
  by_cases e13 : x = 13
  · subst e13
    exact ev_ps 15 rfl (ev_ret rfl rfl ⟨by rw [rz_rs, if_neg (by decide), if_pos rfl, ← h3], rfl⟩)
  have rs : rz_rs T P E x = if rz_dc (¬ x < 0 ∧ ¬ 11 < x) = true then T x.toNatClampNeg else -1 := by rw [rz_rs, if_neg e12, if_neg e13]
  have tail : ¬ (¬ x < 0 ∧ ¬ 11 < x) → rz_E xs xl 6 38 [some (.ref 3), some (.int x)] [] (rz_w v a g) 0 0 (fun q w' => q = .inl (some (.int (rz_rs T P E x))) ∧ w' = rz_w v a g) := fun hno => by
    have t12 : ¬ x.toInt = 12 := fun z => e12 (Int32.toInt_inj.mp z)
    have t13 : ¬ x.toInt = 13 := fun z => e13 (Int32.toInt_inj.mp z)
    refine ev_ps 1 rfl (ev_lswd rfl ?_ ?_)
    · simp [Op.lookupswitch.offset, t12, t13, Ne.symm t12, Ne.symm t13]
    · exact ev_ps 1 rfl (ev_ret rfl rfl ⟨by rw [rs, rz_dc_f hno]; rfl, rfl⟩)
  have c11 : ∀ y : Int32, ¬ 12 ≤ y → ¬ 11 < y := fun y h1 h2 => by
    rw [Int32.le_iff_toInt_le] at h1
    rw [Int32.lt_iff_toInt_lt] at h2
    have q1 : (12 : Int32).toInt = 12 := rfl
    have q2 : (11 : Int32).toInt = 11 := rfl
    omega
  have c12 : ∀ y : Int32, 12 ≤ y → 11 < y := fun y h1 => Int32.lt_of_lt_of_le (by decide) h1
  have mid : (x < 0 ∨ 4 ≤ x) → rz_E xs xl 6 18 [some (.ref 3), some (.int x)] [] (rz_w v a g) 0 0 (fun q w' => q = .inl (some (.int (rz_rs T P E x))) ∧ w' = rz_w v a g) := fun hor => by
    refine ev_ps 2 rfl (ev_ic (cd := .lt) rfl (fun h1 => tail (fun z => hor.elim z.1 (fun y => Int32.not_le.mpr (rc_lt_t h1) y))) (fun h1 => ?_))
    refine ev_ps 2 rfl (ev_ic (cd := .ge) rfl (fun h2 => tail (fun z => z.2 (c12 _ (rc_ge_t h2)))) (fun h2 => ?_))
    have h0 : ¬ x < 0 := fun z => rc_lt_f h1 (Int32.lt_trans z (by decide))
    have hin : ¬ x < 0 ∧ ¬ 11 < x := ⟨h0, c11 _ (rc_ge_f h2)⟩
    obtain ⟨k, hk, rfl⟩ := rz_le_nat (b := 11) (by decide) hin.1 hin.2
    have hk4 : 4 ≤ k := Nat.not_lt.mp fun q => rc_lt_f h1 ((rz_lt_iff (k := 4) (by omega) (by omega)).mpr q)
    have e4 : Int32.ofNat k - Int32.ofInt 4 = Int32.ofNat (k - 4) := rz_sub (n := 4) hk4
    refine ev_ps 5 rfl (ev_ald rfl rfl (by rw [e4]; exact rz_in (by omega) (by decide)) ?_)
    rw [e4, rz_clamp (k := k - 4) (by omega), hc _ (by omega), show 4 + (k - 4) = k by omega]
    exact ev_ret rfl rfl ⟨by rw [rs, rz_dc_t hin, if_pos rfl, rz_clamp (by omega)], rfl⟩
  refine ev_ps 1 rfl (ev_if (cd := .lt) rfl (fun h1 => mid (Or.inl (rc_lt_t h1))) (fun h1 => ?_))
  refine ev_ps 2 rfl (ev_ic (cd := .ge) rfl (fun h2 => mid (Or.inr (rc_ge_t h2))) (fun h2 => ?_))
  obtain ⟨k, hk, rfl⟩ := rz_idx (n := 4) (by decide) (rc_lt_f h1) (Int32.not_le.mp (rc_ge_f h2))
  have hin : ¬ Int32.ofNat k < 0 ∧ ¬ 11 < Int32.ofNat k := ⟨rc_lt_f h1, fun z => absurd ((rz_lt_iff (n := 11) (by omega) (by omega)).mp z) (by omega)⟩
  refine ev_ps 3 rfl (ev_call (av := [_, _]) rfl rfl rfl rfl ⟨Nat.le_of_ble_eq_true rfl, rfl⟩ ⟨Nat.le_of_ble_eq_true rfl, Nat.le_of_ble_eq_true rfl⟩ (x_value hr hk) ?_)
  rintro _ _ ⟨rfl, rfl⟩
  exact ev_ret rfl rfl ⟨by rw [rs, rz_dc_t hin, if_pos rfl, rz_clamp (by omega)], rfl⟩
theorem p_resultY (hC : rz_CC v a R n r b l) (hM : rz_CM v a S T P E) (x : Int32) : rz_C xs xl 5 [.ref 0, .int x] (rz_w v a g) (rz_PC v a (fun q _ v' a' => q = .inl (some (.int (rz_rs T P E x))) ∧ rz_kc v a v' a') R n r b l) := by
  refine ev_ps 3 rfl (ev_call (av := [_, _]) rfl rfl rfl rfl ⟨Nat.le_of_ble_eq_true rfl, rfl⟩ ⟨Nat.le_of_ble_eq_true rfl, Nat.le_of_ble_eq_true rfl⟩ (x_outcome hM _) ?_)
  rintro _ _ ⟨rfl, rfl⟩
  exact ev_ret rfl rfl ⟨_, _, g, ⟨rfl, rz_kc.rf⟩, rfl, rz_cf.rf, hC⟩
theorem m_resultY (hR : rz_RR v a R n r b l) (hM : rz_RM v a S T P E) (x : Int32) : rz_C xs xl 84 [.ref 25, .int x] (rz_w v a g) (rz_PM v a g (fun q v' a' => q = .inl (some (.int (rz_rs T P E x))) ∧ rz_ks v a v' a') R n r b l) := by
  obtain ⟨-, hT, h23, h22⟩ := hM
  refine ev_ps 3 rfl (ev_w (w2 := rz_w (rz_up v 20 0) a g) rfl ?_)
  refine ev_ps 2 rfl (ev_ic (cd := .ne) rfl (fun h => ?_) (fun h => ?_))
  · refine ev_ps 2 rfl (ev_ic (cd := .ne) rfl (fun h2 => ?_) (fun h2 => ?_))
    · have rs : rz_rs T P E x = if rz_dc (¬ x < 0 ∧ ¬ 11 < x) = true then T x.toNatClampNeg else -1 := by rw [rz_rs, if_neg (show ¬ x = 12 from rc_ne_t h), if_neg (show ¬ x = 13 from rc_ne_t h2)]
      refine ev_ps 3 rfl (ev_call (av := [_, _, _]) rfl rfl rfl rfl ⟨Nat.le_of_ble_eq_true rfl, rfl⟩ ⟨Nat.le_of_ble_eq_true rfl, Nat.le_of_ble_eq_true rfl⟩ (m_in _ _ _) ?_)
      rintro _ _ ⟨⟨u1, h1, rfl⟩, rfl⟩
      have h1' : (u1 = 1 ∧ ¬ x < 0 ∧ ¬ 11 < x) ∨ (u1 = 0 ∧ ¬ (¬ x < 0 ∧ ¬ 11 < x)) := h1
      refine ev_if (cd := .eq) rfl (fun e => ?_) (fun e1 => ?_)
      · have hno : ¬ (¬ x < 0 ∧ ¬ 11 < x) := h1'.elim (fun z => absurd ((rc_eq_t e).symm.trans z.1) (by decide)) (fun z => z.2)
        exact ev_ps 1 rfl (ev_ret rfl rfl ⟨_, _, rfl, ⟨by rw [rs, rz_dc_f hno]; rfl, rz_ks.rf⟩, rz_mf.rf.up (by omega) _, hR⟩)
      · have hin := (h1'.resolve_right (fun q => rc_eq_f e1 q.1)).2
        obtain ⟨k, hk, rfl⟩ := rz_le_nat (b := 11) (by decide) hin.1 hin.2
        refine ev_ps 3 rfl (ev_ald rfl rfl (rz_in (by omega) (by decide)) ?_)
        rw [rz_clamp (k := k) (by omega), hT k (by omega)]
        exact ev_ps 1 rfl (ev_ret rfl rfl ⟨_, _, rfl, ⟨by rw [rs, rz_dc_t hin, if_pos rfl, rz_clamp (by omega)], rz_ks.rf⟩, rz_mf.rf.up (by omega) _, hR⟩)
    · exact ev_ps 3 rfl (ev_ret rfl rfl ⟨_, _, rfl, ⟨by rw [rz_rs, if_neg (show ¬ x = 12 from rc_ne_t h), if_pos (show x = 13 from rc_ne_f h2), ← h23]; rfl, rz_ks.rf⟩, rz_mf.rf.up (by omega) _, hR⟩)
  · exact ev_ps 3 rfl (ev_ret rfl rfl ⟨_, _, rfl, ⟨by rw [rz_rs, if_pos (show x = 12 from rc_ne_f h), ← h22]; rfl, rz_ks.rf⟩, rz_mf.rf.up (by omega) _, hR⟩)
theorem p_sameY {k : Nat} (hC : rz_CC v a R k r b l) (x n y m z : Int32) : rz_C xs xl 68 [.ref 0, .int x, .int n, .int y, .int m, .int z] (rz_w v a g) (rz_PC v a (fun q _ v' a' => (rz_pi q ∨ q = .inr 0 ∨ q = .inr 2 ∨ q = .inr 3) ∧ rz_kc v a v' a') R k r b l) := by
  refine ev_ps 1 rfl (ev_if (cd := .lt) rfl (fun h1 => ?_) (fun h1 => ?_))
  · exact ev_thr rfl ⟨Nat.le_of_ble_eq_true rfl, Nat.le_of_ble_eq_true rfl⟩ ⟨v, a, g, ⟨Or.inr (Or.inl rfl), rz_kc.rf⟩, rfl, rz_cf.rf, hC⟩
  refine ev_ps 2 rfl (ev_ic (cd := .gt) rfl (fun h2 => ?_) (fun h2 => ?_))
  · exact ev_thr rfl ⟨Nat.le_of_ble_eq_true rfl, Nat.le_of_ble_eq_true rfl⟩ ⟨v, a, g, ⟨Or.inr (Or.inl rfl), rz_kc.rf⟩, rfl, rz_cf.rf, hC⟩
  refine ev_ps 1 rfl (ev_if (cd := .lt) rfl (fun h3 => ?_) (fun h3 => ?_))
  · exact ev_thr rfl ⟨Nat.le_of_ble_eq_true rfl, Nat.le_of_ble_eq_true rfl⟩ ⟨v, a, g, ⟨Or.inr (Or.inl rfl), rz_kc.rf⟩, rfl, rz_cf.rf, hC⟩
  refine ev_ps 2 rfl (ev_ic (cd := .le) rfl (fun h4 => ?_) (fun h4 => ?_))
  rotate_left
  · exact ev_thr rfl ⟨Nat.le_of_ble_eq_true rfl, Nat.le_of_ble_eq_true rfl⟩ ⟨v, a, g, ⟨Or.inr (Or.inl rfl), rz_kc.rf⟩, rfl, rz_cf.rf, hC⟩
  refine ev_ps 1 rfl (ev_if (cd := .lt) rfl (fun h5 => ?_) (fun h5 => ?_))
  · exact ev_thr rfl ⟨Nat.le_of_ble_eq_true rfl, Nat.le_of_ble_eq_true rfl⟩ ⟨v, a, g, ⟨Or.inr (Or.inl rfl), rz_kc.rf⟩, rfl, rz_cf.rf, hC⟩
  refine ev_ps 2 rfl (ev_ic (cd := .le) rfl (fun h6 => ?_) (fun h6 => ?_))
  rotate_left
  · exact ev_thr rfl ⟨Nat.le_of_ble_eq_true rfl, Nat.le_of_ble_eq_true rfl⟩ ⟨v, a, g, ⟨Or.inr (Or.inl rfl), rz_kc.rf⟩, rfl, rz_cf.rf, hC⟩
  obtain ⟨hk, hv, -⟩ := id hC
  refine ev_ps 4 rfl (ev_call (av := [_, _, _]) rfl rfl rfl rfl ⟨Nat.le_of_ble_eq_true rfl, rfl⟩ ⟨Nat.le_of_ble_eq_true rfl, Nat.le_of_ble_eq_true rfl⟩ (c_hasAll _ _) ?_)
  rintro _ _ ⟨⟨u1, hu1, hP1, rfl⟩, rfl⟩
  refine ev_if (cd := .eq) rfl (fun h7 => ?_) (fun h7 => ?_)
  · exact ev_thr rfl ⟨Nat.le_of_ble_eq_true rfl, Nat.le_of_ble_eq_true rfl⟩ ⟨v, a, g, ⟨Or.inr (Or.inr (Or.inl rfl)), rz_kc.rf⟩, rfl, rz_cf.rf, hC⟩
  have o1 := rz_okr_of hv hk (rc_lt_f h1) (rc_gt_f h2) (hP1 (hu1.resolve_left (rc_eq_f h7)))
  refine ev_ps 4 rfl (ev_call (av := [_, _, _]) rfl rfl rfl rfl ⟨Nat.le_of_ble_eq_true rfl, rfl⟩ ⟨Nat.le_of_ble_eq_true rfl, Nat.le_of_ble_eq_true rfl⟩ (c_hasAll _ _) ?_)
  rintro _ _ ⟨⟨u2, hu2, hP2, rfl⟩, rfl⟩
  refine ev_if (cd := .ne) rfl (fun h8 => ?_) (fun h8 => ?_)
  rotate_left
  · exact ev_thr rfl ⟨Nat.le_of_ble_eq_true rfl, Nat.le_of_ble_eq_true rfl⟩ ⟨v, a, g, ⟨Or.inr (Or.inr (Or.inl rfl)), rz_kc.rf⟩, rfl, rz_cf.rf, hC⟩
  have o2 := rz_okr_of hv hk (rc_lt_f h3) (Int32.not_lt.mpr (rc_le_t h4)) (hP2 (hu2.resolve_left (rc_ne_t h8)))
  refine ev_ps 4 rfl (ev_call (av := [_, _, _]) rfl rfl rfl rfl ⟨Nat.le_of_ble_eq_true rfl, rfl⟩ ⟨Nat.le_of_ble_eq_true rfl, Nat.le_of_ble_eq_true rfl⟩ (c_allPlainX o1) ?_)
  rintro _ _ ⟨⟨u3, hu3, -, rfl⟩, rfl⟩
  refine ev_if (cd := .eq) rfl (fun h9 => ?_) (fun h9 => ?_)
  · exact ev_thr rfl ⟨Nat.le_of_ble_eq_true rfl, Nat.le_of_ble_eq_true rfl⟩ ⟨v, a, g, ⟨Or.inr (Or.inr (Or.inr rfl)), rz_kc.rf⟩, rfl, rz_cf.rf, hC⟩
  refine ev_ps 4 rfl (ev_call (av := [_, _, _]) rfl rfl rfl rfl ⟨Nat.le_of_ble_eq_true rfl, rfl⟩ ⟨Nat.le_of_ble_eq_true rfl, Nat.le_of_ble_eq_true rfl⟩ (c_allPlainX o2) ?_)
  rintro _ _ ⟨⟨u4, hu4, -, rfl⟩, rfl⟩
  refine ev_if (cd := .ne) rfl (fun h10 => ?_) (fun h10 => ?_)
  rotate_left
  · exact ev_thr rfl ⟨Nat.le_of_ble_eq_true rfl, Nat.le_of_ble_eq_true rfl⟩ ⟨v, a, g, ⟨Or.inr (Or.inr (Or.inr rfl)), rz_kc.rf⟩, rfl, rz_cf.rf, hC⟩
  refine ev_ps 9 rfl (ev_call (av := [_, _, _, _, _, _, _]) rfl rfl rfl rfl ⟨Nat.le_of_ble_eq_true rfl, rfl⟩ ⟨Nat.le_of_ble_eq_true rfl, Nat.le_of_ble_eq_true rfl⟩ (c_agreeInProgram _ o1 o2) ?_)
  rintro _ _ ⟨⟨u5, hu5, rfl⟩, k1, k2, d, f1, f2, hk1, hk2, rfl⟩
  exact ev_ret rfl (show (if u5 = 0 ∨ u5 = 1 then some (some (Value.int u5)) else none) = _ from if_pos hu5) ⟨_, _, g, ⟨Or.inl ⟨_, rfl⟩, ((((rz_kc.rf.up (by decide) _).up (by decide) _).up (by decide) d).ua (by decide) f1).ua (by decide) f2⟩, rfl, ((((rz_cf.rf.up (by decide) _).up (by decide) _).up (by decide) d).ua (by decide) f1).ua (by decide) f2, hC⟩
theorem l_sameY (hC : rz_CC v a R n r b l) (x0 x1 x2 x3 x4 : Int32) : rz_C xs xl 111 [.ref 0, .int x0, .int x1, .int x2, .int x3, .int x4, .ref 35] (rz_w v a g) (rz_PC v a (fun q _ v' a' => rz_pi q ∧ rz_kc v a v' a') R n r b l) := by
  refine ev_ps 8 rfl (ev_call (av := [_, _, _, _, _, _]) rfl rfl rfl rfl ⟨Nat.le_of_ble_eq_true rfl, rfl⟩ ⟨Nat.le_of_ble_eq_true rfl, Nat.le_of_ble_eq_true rfl⟩ (p_sameY hC _ _ _ _ _) ?_)
  rintro _ _ ⟨v2, a2, g2, ⟨⟨u, rfl⟩ | rfl | rfl | rfl, hk⟩, rfl, h1, h2⟩
  · refine ev_if (cd := .eq) rfl (fun h => ?_) (fun h => ?_)
    · exact ev_ps 4 rfl (ev_ret rfl rfl ⟨_, _, _, ⟨⟨_, rfl⟩, hk⟩, rfl, h1, h2⟩)
    · exact ev_ps 5 rfl (ev_ret rfl rfl ⟨_, _, _, ⟨⟨_, rfl⟩, hk⟩, rfl, h1, h2⟩)
  · exact ⟨28, 7, rfl, ev_ps 1 rfl (ev_ret rfl rfl ⟨_, _, _, ⟨⟨_, rfl⟩, hk⟩, rfl, h1, h2⟩)⟩
  · exact ⟨32, 7, rfl, ev_ps 1 rfl (ev_ret rfl rfl ⟨_, _, _, ⟨⟨_, rfl⟩, hk⟩, rfl, h1, h2⟩)⟩
  · exact ⟨36, 7, rfl, ev_ps 1 rfl (ev_ret rfl rfl ⟨_, _, _, ⟨⟨_, rfl⟩, hk⟩, rfl, h1, h2⟩)⟩
theorem m_sameY {k : Nat} (hR : rz_RR v a R k r b l) (x n y m z : Int32) : rz_C xs xl 92 [.ref 25, .int x, .int n, .int y, .int m, .int z] (rz_w v a g) (rz_PM v a g (fun q v' a' => rz_pi q ∧ rz_ks v a v' a') R k r b l) := by
  have no : ∀ c : Int32, c ≠ 0 → rz_E xs xl 92 82 [some (.ref 25), some (.int x), some (.int n), some (.int y), some (.int m), some (.int z)] [.int c, .ref 25] (rz_w v a g) 0 0 (rz_PM v a g (fun q v' a' => rz_pi q ∧ rz_ks v a v' a') R k r b l) := by
    intro c hc
    refine ev_ps 1 rfl (ev_w (w2 := rz_w (rz_up v 20 c) a g) rfl ?_)
    refine ev_ps 2 rfl (ev_if (cd := .ne) rfl (fun h => ?_) (fun h => absurd (rc_ne_f h) hc))
    exact ev_ps 1 rfl (ev_ret rfl rfl ⟨_, _, rfl, ⟨⟨_, rfl⟩, rz_ks.rf⟩, rz_mf.rf.up (by omega) _, hR⟩)
  have no1 : rz_E xs xl 92 31 [some (.ref 25), some (.int x), some (.int n), some (.int y), some (.int m), some (.int z)] [.ref 25] (rz_w v a g) 0 0 (rz_PM v a g (fun q v' a' => rz_pi q ∧ rz_ks v a v' a') R k r b l) := ev_ps 2 rfl (no 1 (by decide))
  have no2 : rz_E xs xl 92 54 [some (.ref 25), some (.int x), some (.int n), some (.int y), some (.int m), some (.int z)] [.ref 25] (rz_w v a g) 0 0 (rz_PM v a g (fun q v' a' => rz_pi q ∧ rz_ks v a v' a') R k r b l) := ev_ps 2 rfl (no 2 (by decide))
  have no3 : rz_E xs xl 92 77 [some (.ref 25), some (.int x), some (.int n), some (.int y), some (.int m), some (.int z)] [.ref 25] (rz_w v a g) 0 0 (rz_PM v a g (fun q v' a' => rz_pi q ∧ rz_ks v a v' a') R k r b l) := ev_ps 2 rfl (no 3 (by decide))
  have hk := hR.1
  have hv := hR.2.1
  have hrows : ∀ j, j < k → rz_li a j := fun j hj => rz_pr_li hR.2.2.1 hR.2.2.2.1 hj
  refine ev_ps 4 rfl (ev_call (av := [_, _, _]) rfl rfl rfl rfl ⟨Nat.le_of_ble_eq_true rfl, rfl⟩ ⟨Nat.le_of_ble_eq_true rfl, Nat.le_of_ble_eq_true rfl⟩ (m_in _ _ _) ?_)
  rintro _ _ ⟨⟨u1, h1, rfl⟩, rfl⟩
  refine ev_if (cd := .eq) rfl (fun e => no1) (fun e1 => ?_)
  obtain ⟨-, n0, n1⟩ := h1.resolve_right (fun q => rc_eq_f e1 q.1)
  refine ev_ps 3 rfl (ev_call (av := [_, _, _]) rfl rfl rfl rfl ⟨Nat.le_of_ble_eq_true rfl, rfl⟩ ⟨Nat.le_of_ble_eq_true rfl, Nat.le_of_ble_eq_true rfl⟩ (m_in _ _ _) ?_)
  rintro _ _ ⟨⟨u2, h2, rfl⟩, rfl⟩
  refine ev_if (cd := .eq) rfl (fun e => no1) (fun e2 => ?_)
  obtain ⟨-, m0, m1⟩ := h2.resolve_right (fun q => rc_eq_f e2 q.1)
  refine ev_ps 3 rfl (ev_call (av := [_, _, _]) rfl rfl rfl rfl ⟨Nat.le_of_ble_eq_true rfl, rfl⟩ ⟨Nat.le_of_ble_eq_true rfl, Nat.le_of_ble_eq_true rfl⟩ (m_in _ _ _) ?_)
  rintro _ _ ⟨⟨u3, h3, rfl⟩, rfl⟩
  refine ev_if (cd := .ne) rfl (fun e3 => ?_) (fun e => no1)
  obtain ⟨n', hn', rfl⟩ := rz_le_nat (b := 3) (by decide) n0 n1
  obtain ⟨m', hm', rfl⟩ := rz_le_nat (b := 3) (by decide) m0 m1
  refine ev_ps 3 rfl (ev_call (av := [_, _, _]) rfl rfl rfl rfl ⟨Nat.le_of_ble_eq_true rfl, rfl⟩ ⟨Nat.le_of_ble_eq_true rfl, Nat.le_of_ble_eq_true rfl⟩ (m_isThere _ hn' hk hv) ?_)
  rintro _ _ ⟨⟨u4, hu4, hP4, rfl⟩, rfl⟩
  refine ev_if (cd := .eq) rfl (fun e => no2) (fun e4 => ?_)
  obtain ⟨p, rfl, hpn⟩ := hP4 (hu4.resolve_left (rc_eq_f e4))
  refine ev_ps 3 rfl (ev_call (av := [_, _, _]) rfl rfl rfl rfl ⟨Nat.le_of_ble_eq_true rfl, rfl⟩ ⟨Nat.le_of_ble_eq_true rfl, Nat.le_of_ble_eq_true rfl⟩ (m_isThere _ hm' hk hv) ?_)
  rintro _ _ ⟨⟨u5, hu5, hP5, rfl⟩, rfl⟩
  refine ev_if (cd := .ne) rfl (fun e5 => ?_) (fun e => no2)
  obtain ⟨q, rfl, hqm⟩ := hP5 (hu5.resolve_left (rc_ne_t e5))
  refine ev_ps 3 rfl (ev_call (av := [_, _, _]) rfl rfl rfl rfl ⟨Nat.le_of_ble_eq_true rfl, rfl⟩ ⟨Nat.le_of_ble_eq_true rfl, Nat.le_of_ble_eq_true rfl⟩ (m_isPlain (by omega)) ?_)
  rintro _ _ ⟨⟨u6, hu6, -, rfl⟩, rfl⟩
  refine ev_if (cd := .eq) rfl (fun e => no3) (fun e6 => ?_)
  refine ev_ps 3 rfl (ev_call (av := [_, _, _]) rfl rfl rfl rfl ⟨Nat.le_of_ble_eq_true rfl, rfl⟩ ⟨Nat.le_of_ble_eq_true rfl, Nat.le_of_ble_eq_true rfl⟩ (m_isPlain (by omega)) ?_)
  rintro _ _ ⟨⟨u7, hu7, -, rfl⟩, rfl⟩
  refine ev_if (cd := .ne) rfl (fun e7 => ?_) (fun e => no3)
  refine ev_ps 2 rfl (ev_w (w2 := rz_w (rz_up v 20 0) a g) rfl ?_)
  refine ev_ps 2 rfl (ev_if (cd := .ne) rfl (fun h => absurd rfl (rc_ne_t h)) (fun h => ?_))
  refine ev_ps 6 rfl (ev_call (av := [_, _, _, _, _, _]) rfl rfl rfl rfl ⟨Nat.le_of_ble_eq_true rfl, rfl⟩ ⟨Nat.le_of_ble_eq_true rfl, Nat.le_of_ble_eq_true rfl⟩ (m_agree _ (by omega) (by omega) (fun j h1 h2 => hrows j (by omega)) (fun j h1 h2 => hrows j (by omega))) ?_)
  rintro _ _ ⟨⟨u8, hu8, rfl⟩, f1, f2, rfl⟩
  refine ev_if (cd := .eq) rfl (fun h => ?_) (fun h => ?_)
  · exact ev_ps 1 rfl (ev_ret rfl rfl ⟨_, _, rfl, ⟨⟨_, rfl⟩, rz_ks.rf⟩, ((rz_mf.rf.up (by omega) _).ua (by omega) _).ua (by omega) _, (hR.ua (by omega) f1).ua (by omega) f2⟩)
  · exact ev_ps 2 rfl (ev_ret rfl rfl ⟨_, _, rfl, ⟨⟨_, rfl⟩, rz_ks.rf⟩, ((rz_mf.rf.up (by omega) _).ua (by omega) _).ua (by omega) _, (hR.ua (by omega) f1).ua (by omega) f2⟩)
theorem m_startY (hR : rz_RR v a R n r b l) (hM : rz_RM v a S T P E) (x y : Int32) : rz_C xs xl 79 [.ref 25, .int x, .int y] (rz_w v a g) (rz_PM v a g (fun q v' a' => q = .inl none ∧ rz_RM v' a' (rz_stt S x y) T P E) R n r b l) := by
  have no : ¬ rz_sok x y → rz_E xs xl 79 25 [some (.ref 25), some (.int x), some (.int y)] [.ref 25] (rz_w v a g) 0 0 (rz_PM v a g (fun q v' a' => q = .inl none ∧ rz_RM v' a' (rz_stt S x y) T P E) R n r b l) := by
    intro hno
    refine ev_ps 2 rfl (ev_w (w2 := rz_w (rz_up v 20 1) a g) rfl ?_)
    refine ev_ps 2 rfl (ev_if (cd := .ne) rfl (fun h => ?_) (fun h => absurd (rc_ne_f h) (show ¬ (1 : Int32) = 0 by decide)))
    exact ev_ret rfl rfl ⟨_, _, rfl, ⟨rfl, by rw [show rz_stt S x y = S from by rw [rz_stt, rz_dc_f hno]; rfl]; exact hM⟩, rz_mf.rf.up (by omega) _, hR⟩
  refine ev_ps 4 rfl (ev_call (av := [_, _, _]) rfl rfl rfl rfl ⟨Nat.le_of_ble_eq_true rfl, rfl⟩ ⟨Nat.le_of_ble_eq_true rfl, Nat.le_of_ble_eq_true rfl⟩ (m_in _ _ _) ?_)
  rintro _ _ ⟨⟨u1, h1, rfl⟩, rfl⟩
  refine ev_if (cd := .eq) rfl (fun e => no ?_) (fun e1 => ?_)
  · intro hok
    rcases h1 with ⟨q, -⟩ | ⟨-, q⟩
    · rw [rc_eq_t e] at q; exact absurd q (by decide)
    · refine q ⟨hok.1, ?_⟩
      intro q2
      have : x < 12 := hok.2.1
      obtain ⟨k, hk, rfl⟩ := rz_idx (n := 12) (by decide) (fun h => hok.1 (Int32.lt_trans h (by decide))) this
      have := (rz_lt_iff (n := 11) (by omega) (by omega)).mp q2
      omega
  obtain ⟨-, x0, x1⟩ := h1.resolve_right (fun q => rc_eq_f e1 q.1)
  refine ev_ps 3 rfl (ev_call (av := [_, _, _]) rfl rfl rfl rfl ⟨Nat.le_of_ble_eq_true rfl, rfl⟩ ⟨Nat.le_of_ble_eq_true rfl, Nat.le_of_ble_eq_true rfl⟩ (m_in _ _ _) ?_)
  rintro _ _ ⟨⟨u2, h2, rfl⟩, rfl⟩
  refine ev_if (cd := .eq) rfl (fun e => no ?_) (fun e2 => ?_)
  · intro hok
    rcases h2 with ⟨q, -⟩ | ⟨-, q⟩
    · rw [rc_eq_t e] at q; exact absurd q (by decide)
    · exact q ⟨hok.2.2.1, hok.2.2.2⟩
  obtain ⟨-, y0, y1⟩ := h2.resolve_right (fun q => rc_eq_f e2 q.1)
  obtain ⟨k, hk, rfl⟩ := rz_le_nat (b := 11) (by decide) (fun h => x0 (Int32.lt_trans h (by decide))) x1
  obtain ⟨j, hj, rfl⟩ := rz_le_nat (b := 15) (by decide) y0 y1
  have hok : rz_sok (Int32.ofNat k) (Int32.ofNat j) := ⟨x0, (rz_lt_iff (k := 12) (by omega) (by omega)).mpr (by omega), y0, y1⟩
  refine ev_ps 3 rfl (ev_w (w2 := rz_w (rz_up v 20 0) a g) rfl ?_)
  refine ev_ps 2 rfl (ev_if (cd := .ne) rfl (fun h => absurd rfl (rc_ne_t h)) (fun h => ?_))
  refine ev_ps 4 rfl (ev_ast rfl rfl (rz_in (by omega) (by decide)) ?_)
  refine ev_w (w2 := rz_w (rz_up v 20 0) (rz_ua a 24 (upd (a 24) k (Int32.ofNat j))) g) (by rw [rz_clamp (by omega)]; rfl) ?_
  refine ev_ret rfl rfl ⟨_, _, rfl, ⟨rfl, fun i hi => ?_, hM.2⟩, (rz_mf.rf.up (by omega) _).ua (by omega) _, hR.1, hR.2.1, hR.2.2.1, hR.2.2.2.1, hR.2.2.2.2.1, ?_, hR.2.2.2.2.2.2⟩
  · have e : rz_stt S (Int32.ofNat k) (Int32.ofNat j) = upd S k (Int32.ofNat j) := by rw [rz_stt, rz_dc_t hok, if_pos rfl, rz_clamp (by omega)]
    rw [e]
    show upd (a 24) k (Int32.ofNat j) i = upd S k (Int32.ofNat j) i
    simp only [upd]
    by_cases hik : i = k
    · rw [if_pos hik, if_pos hik]
    · rw [if_neg hik, if_neg hik]; exact hM.1 i hi
  intro i hi
  show ∃ j', j' ≤ 15 ∧ upd (a 24) k (Int32.ofNat j) i = Int32.ofNat j'
  by_cases hik : i = k
  · exact ⟨j, hj, by simp [upd, hik]⟩
  · obtain ⟨j', hj', e⟩ := hR.2.2.2.2.2.1 i hi
    exact ⟨j', hj', by simp [upd, hik]; exact e⟩
end RZZ5
