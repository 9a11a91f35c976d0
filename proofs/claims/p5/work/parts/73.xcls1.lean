/-! the class, exactly: codes and registers -/
section RZY1
variable {xs : Nat → Int32} {xl : Nat} {v : Nat → Int32} {a : Nat → Nat → Int32} {g : Nat → Int64} {w : rz_W} {q : rz_Q}
theorem x_op (hq : rz_lg q) : rz_C xs xl 16 [.int (rz_pk q)] w (fun r w' => r = .inl (some (.int (Int32.ofNat q.1))) ∧ w' = w) := by
  have h := c_operation (xs := xs) (xl := xl) (w := w) (rz_pk q)
  rw [rz_pk_o hq] at h
  exact h
theorem x_d (hq : rz_lg q) : rz_C xs xl 18 [.int (rz_pk q)] w (fun r w' => r = .inl (some (.int (Int32.ofNat q.2.1))) ∧ w' = w) := by
  have h := c_d (xs := xs) (xl := xl) (w := w) (rz_pk q)
  rw [rz_pk_d hq] at h
  exact h
theorem x_s (hq : rz_lg q) : rz_C xs xl 20 [.int (rz_pk q)] w (fun r w' => r = .inl (some (.int (Int32.ofNat q.2.2.1))) ∧ w' = w) := by
  have h := c_s (xs := xs) (xl := xl) (w := w) (rz_pk q)
  rw [rz_pk_s hq] at h
  exact h
theorem x_t (hq : rz_lg q) : rz_C xs xl 15 [.int (rz_pk q)] w (fun r w' => r = .inl (some (.int (Int32.ofNat q.2.2.2))) ∧ w' = w) := by
  have h := c_t (xs := xs) (xl := xl) (w := w) (rz_pk q)
  rw [rz_pk_t hq] at h
  exact h
theorem x_with (x0 x1 x2 : Int32) : rz_C xs xl 38 [.int x0, .int x1, .int x2] w (fun r w' => r = .inl (some (.int (rz_wi x0 x1 x2))) ∧ w' = w) := by
  refine ev_ps 1 rfl (ev_if (cd := .ne) rfl (fun h => ?_) (fun h => ?_))
  · exact ev_ps 17 rfl (ev_ret rfl rfl ⟨by rw [rz_wi, if_neg (rc_ne_t h)]; rfl, rfl⟩)
  · exact ev_ps 1 rfl (ev_ret rfl rfl ⟨by rw [rz_wi, if_pos (rc_ne_f h)], rfl⟩)
theorem x_value {r : Int32} {x : Nat → Int32} {k : Nat} (hr : rz_rg r x) (hk : k < 4) : rz_C xs xl 7 [.int r, .int (Int32.ofNat k)] w (fun q w' => q = .inl (some (.int (x k))) ∧ w' = w) := by
  have h := c_value (xs := xs) (xl := xl) (w := w) r (Int32.ofNat k)
  have e : (r >>> (Int32.ofNat k * 4 &&& 31)) &&& 15 = x k := hr.2 k hk
  rw [e] at h
  exact h
theorem x_isPlain (hq : rz_lg q) : rz_C xs xl 26 [.int (rz_pk q)] w (rz_bx w (q.1 ≤ 9)) := by
  have hb := hq.1
  refine ev_ps 1 rfl (ev_call (av := [_]) rfl rfl rfl rfl ⟨Nat.le_of_ble_eq_true rfl, rfl⟩ ⟨Nat.le_of_ble_eq_true rfl, Nat.le_of_ble_eq_true rfl⟩ (x_op hq) ?_)
  rintro _ _ ⟨rfl, rfl⟩
  refine ev_ps 1 rfl (ev_ic (cd := .gt) rfl (fun h => ?_) (fun h => ?_))
  · have h1 := rn_gt_t (k := 9) (by omega) (by omega) h
    exact ev_ps 1 rfl (ev_ret rfl rfl (rz_bx0 (by omega)))
  · have h1 := rn_gt_f (k := 9) (by omega) (by omega) h
    exact ev_ps 2 rfl (ev_ret rfl rfl (rz_bx1 (by omega)))
theorem x_endsBlock (hq : rz_lg q) : rz_C xs xl 28 [.int (rz_pk q)] w (rz_bx w (12 ≤ q.1)) := by
  have hb := hq.1
  refine ev_ps 1 rfl (ev_call (av := [_]) rfl rfl rfl rfl ⟨Nat.le_of_ble_eq_true rfl, rfl⟩ ⟨Nat.le_of_ble_eq_true rfl, Nat.le_of_ble_eq_true rfl⟩ (x_op hq) ?_)
  rintro _ _ ⟨rfl, rfl⟩
  refine ev_ps 1 rfl (ev_ic (cd := .lt) rfl (fun h => ?_) (fun h => ?_))
  · have h1 := rn_lt_t (k := 12) (by omega) (by omega) h
    exact ev_ps 1 rfl (ev_ret rfl rfl (rz_bx0 (by omega)))
  · have h1 := rn_lt_f (k := 12) (by omega) (by omega) h
    exact ev_ps 2 rfl (ev_ret rfl rfl (rz_bx1 (by omega)))
theorem x_hasTarget (hq : rz_lg q) : rz_C xs xl 29 [.int (rz_pk q)] w (rz_bx w (12 ≤ q.1 ∧ q.1 ≤ 14)) := by
  have hb := hq.1
  refine ev_ps 1 rfl (ev_call (av := [_]) rfl rfl rfl rfl ⟨Nat.le_of_ble_eq_true rfl, rfl⟩ ⟨Nat.le_of_ble_eq_true rfl, Nat.le_of_ble_eq_true rfl⟩ (x_op hq) ?_)
  rintro _ _ ⟨rfl, rfl⟩
  refine ev_ps 1 rfl (ev_ic (cd := .lt) rfl (fun h => ?_) (fun h => ?_))
  · have h1 := rn_lt_t (k := 12) (by omega) (by omega) h
    exact ev_ps 1 rfl (ev_ret rfl rfl (rz_bx0 (by omega)))
  · have h1 := rn_lt_f (k := 12) (by omega) (by omega) h
    refine ev_ps 1 rfl (ev_call (av := [_]) rfl rfl rfl rfl ⟨Nat.le_of_ble_eq_true rfl, rfl⟩ ⟨Nat.le_of_ble_eq_true rfl, Nat.le_of_ble_eq_true rfl⟩ (x_op hq) ?_)
    rintro _ _ ⟨rfl, rfl⟩
    refine ev_ps 1 rfl (ev_ic (cd := .gt) rfl (fun h => ?_) (fun h => ?_))
    · have h2 := rn_gt_t (k := 14) (by omega) (by omega) h
      exact ev_ps 1 rfl (ev_ret rfl rfl (rz_bx0 (by omega)))
    · have h2 := rn_gt_f (k := 14) (by omega) (by omega) h
      exact ev_ps 2 rfl (ev_ret rfl rfl (rz_bx1 (by omega)))
theorem x_hasNumber (hq : rz_lg q) : rz_C xs xl 41 [.int (rz_pk q)] w (rz_bx w (6 ≤ q.1 ∧ q.1 ≤ 9)) := by
  have hb := hq.1
  refine ev_ps 1 rfl (ev_call (av := [_]) rfl rfl rfl rfl ⟨Nat.le_of_ble_eq_true rfl, rfl⟩ ⟨Nat.le_of_ble_eq_true rfl, Nat.le_of_ble_eq_true rfl⟩ (x_op hq) ?_)
  rintro _ _ ⟨rfl, rfl⟩
  refine ev_ps 1 rfl (ev_ic (cd := .lt) rfl (fun h => ?_) (fun h => ?_))
  · have h1 := rn_lt_t (k := 6) (by omega) (by omega) h
    exact ev_ps 1 rfl (ev_ret rfl rfl (rz_bx0 (by omega)))
  · have h1 := rn_lt_f (k := 6) (by omega) (by omega) h
    refine ev_ps 1 rfl (ev_call (av := [_]) rfl rfl rfl rfl ⟨Nat.le_of_ble_eq_true rfl, rfl⟩ ⟨Nat.le_of_ble_eq_true rfl, Nat.le_of_ble_eq_true rfl⟩ (x_op hq) ?_)
    rintro _ _ ⟨rfl, rfl⟩
    refine ev_ps 1 rfl (ev_ic (cd := .gt) rfl (fun h => ?_) (fun h => ?_))
    · have h2 := rn_gt_t (k := 9) (by omega) (by omega) h
      exact ev_ps 1 rfl (ev_ret rfl rfl (rz_bx0 (by omega)))
    · have h2 := rn_gt_f (k := 9) (by omega) (by omega) h
      exact ev_ps 2 rfl (ev_ret rfl rfl (rz_bx1 (by omega)))
def rz_wb (q : rz_Q) : Int32 := if q.1 ≤ 10 then 1 <<< (Int32.ofNat q.2.1 &&& 31) else 0
def rz_rb (q : rz_Q) : Int32 := if q.1 ≤ 5 then (1 <<< (Int32.ofNat q.2.2.1 &&& 31)) ||| (1 <<< (Int32.ofNat q.2.2.2 &&& 31)) else if q.1 ≤ 10 then 1 <<< (Int32.ofNat q.2.2.1 &&& 31) else if q.1 ≤ 13 then (1 <<< (Int32.ofNat q.2.1 &&& 31)) ||| (1 <<< (Int32.ofNat q.2.2.1 &&& 31)) else if q.1 = 15 then 15 else 0
theorem x_writtenBy (hq : rz_lg q) : rz_C xs xl 17 [.int (rz_pk q)] w (fun r w' => r = .inl (some (.int (rz_wb q))) ∧ w' = w) := by
  have hb := hq.1
  refine ev_ps 1 rfl (ev_call (av := [_]) rfl rfl rfl rfl ⟨Nat.le_of_ble_eq_true rfl, rfl⟩ ⟨Nat.le_of_ble_eq_true rfl, Nat.le_of_ble_eq_true rfl⟩ (x_op hq) ?_)
  rintro _ _ ⟨rfl, rfl⟩
  refine ev_ps 1 rfl (ev_ic (cd := .gt) rfl (fun h => ?_) (fun h => ?_))
  · have h1 := rn_gt_t (k := 10) (by omega) (by omega) h
    exact ev_ps 1 rfl (ev_ret rfl rfl ⟨by rw [rz_wb, if_neg (by omega)]; rfl, rfl⟩)
  · have h1 := rn_gt_f (k := 10) (by omega) (by omega) h
    refine ev_ps 2 rfl (ev_call (av := [_]) rfl rfl rfl rfl ⟨Nat.le_of_ble_eq_true rfl, rfl⟩ ⟨Nat.le_of_ble_eq_true rfl, Nat.le_of_ble_eq_true rfl⟩ (x_d hq) ?_)
    rintro _ _ ⟨rfl, rfl⟩
    exact ev_ps 2 rfl (ev_ret rfl rfl ⟨by rw [rz_wb, if_pos (by omega)]; rfl, rfl⟩)
theorem x_readBy (hq : rz_lg q) : rz_C xs xl 19 [.int (rz_pk q)] w (fun r w' => r = .inl (some (.int (rz_rb q))) ∧ w' = w) := by
  have hb := hq.1
  refine ev_ps 1 rfl (ev_call (av := [_]) rfl rfl rfl rfl ⟨Nat.le_of_ble_eq_true rfl, rfl⟩ ⟨Nat.le_of_ble_eq_true rfl, Nat.le_of_ble_eq_true rfl⟩ (x_op hq) ?_)
  rintro _ _ ⟨rfl, rfl⟩
  refine ev_ps 3 rfl (ev_ic (cd := .gt) rfl (fun h => ?_) (fun h => ?_))
  · have h1 := rn_gt_t (k := 5) (by omega) (by omega) h
    refine ev_ps 2 rfl (ev_ic (cd := .gt) rfl (fun h => ?_) (fun h => ?_))
    · have h2 := rn_gt_t (k := 10) (by omega) (by omega) h
      refine ev_ps 2 rfl (ev_ic (cd := .gt) rfl (fun h => ?_) (fun h => ?_))
      · have h3 := rn_gt_t (k := 13) (by omega) (by omega) h
        refine ev_ps 2 rfl (ev_ic (cd := .ne) rfl (fun h => ?_) (fun h => ?_))
        · have h4 : ¬ q.1 = 15 := fun z => rc_ne_t h (by rw [z]; rfl)
          exact ev_ps 1 rfl (ev_ret rfl rfl ⟨by rw [rz_rb, if_neg (by omega), if_neg (by omega), if_neg (by omega), if_neg h4]; rfl, rfl⟩)
        · have h4 : q.1 = 15 := (rz_eq_iff (k := 15) (by omega) (by omega)).mp (rc_ne_f h)
          exact ev_ps 2 rfl (ev_ret rfl rfl ⟨by rw [rz_rb, if_neg (by omega), if_neg (by omega), if_neg (by omega), if_pos h4]; rfl, rfl⟩)
      · have h3 := rn_gt_f (k := 13) (by omega) (by omega) h
        refine ev_ps 2 rfl (ev_call (av := [_]) rfl rfl rfl rfl ⟨Nat.le_of_ble_eq_true rfl, rfl⟩ ⟨Nat.le_of_ble_eq_true rfl, Nat.le_of_ble_eq_true rfl⟩ (x_d hq) ?_)
        rintro _ _ ⟨rfl, rfl⟩
        refine ev_ps 3 rfl (ev_call (av := [_]) rfl rfl rfl rfl ⟨Nat.le_of_ble_eq_true rfl, rfl⟩ ⟨Nat.le_of_ble_eq_true rfl, Nat.le_of_ble_eq_true rfl⟩ (x_s hq) ?_)
        rintro _ _ ⟨rfl, rfl⟩
        exact ev_ps 2 rfl (ev_ret rfl rfl ⟨by rw [rz_rb, if_neg (by omega), if_neg (by omega), if_pos (by omega)]; rfl, rfl⟩)
    · have h2 := rn_gt_f (k := 10) (by omega) (by omega) h
      refine ev_ps 2 rfl (ev_call (av := [_]) rfl rfl rfl rfl ⟨Nat.le_of_ble_eq_true rfl, rfl⟩ ⟨Nat.le_of_ble_eq_true rfl, Nat.le_of_ble_eq_true rfl⟩ (x_s hq) ?_)
      rintro _ _ ⟨rfl, rfl⟩
      exact ev_ps 1 rfl (ev_ret rfl rfl ⟨by rw [rz_rb, if_neg (by omega), if_pos (by omega)]; rfl, rfl⟩)
  · have h1 := rn_gt_f (k := 5) (by omega) (by omega) h
    refine ev_ps 2 rfl (ev_call (av := [_]) rfl rfl rfl rfl ⟨Nat.le_of_ble_eq_true rfl, rfl⟩ ⟨Nat.le_of_ble_eq_true rfl, Nat.le_of_ble_eq_true rfl⟩ (x_s hq) ?_)
    rintro _ _ ⟨rfl, rfl⟩
    refine ev_ps 3 rfl (ev_call (av := [_]) rfl rfl rfl rfl ⟨Nat.le_of_ble_eq_true rfl, rfl⟩ ⟨Nat.le_of_ble_eq_true rfl, Nat.le_of_ble_eq_true rfl⟩ (x_t hq) ?_)
    rintro _ _ ⟨rfl, rfl⟩
    exact ev_ps 2 rfl (ev_ret rfl rfl ⟨by rw [rz_rb, if_pos (by omega)]; rfl, rfl⟩)
theorem x_regsAfter {r : Int32} {x : Nat → Int32} (hq : rz_lg q) (h9 : q.1 ≤ 9) (hr : rz_rg r x) : rz_C xs xl 37 [.int (rz_pk q), .int r] w (fun u w' => (∃ r', u = .inl (some (.int r')) ∧ rz_rg r' (rz_sp q x)) ∧ w' = w) := by
  have hq' := hq
  obtain ⟨b1, b2, b3, b4, b5⟩ := hq'
  have fin : ∀ val : Int32, val &&& 15 = rz_made q.1 (x q.2.2.1) (if q.1 ≤ 5 then x q.2.2.2 else Int32.ofNat q.2.2.2) → rz_E xs xl 37 164 [some (.int (rz_pk q)), some (.int r), some (.int (Int32.ofNat q.1)), some (.int (x q.2.2.1)), some (.int (if q.1 ≤ 5 then x q.2.2.2 else Int32.ofNat q.2.2.2)), some (.int val)] [] w 0 0 (fun u w' => (∃ r', u = .inl (some (.int r')) ∧ rz_rg r' (rz_sp q x)) ∧ w' = w) := by
    intro val hval
    refine ev_ps 2 rfl (ev_call (av := [_]) rfl rfl rfl rfl ⟨Nat.le_of_ble_eq_true rfl, rfl⟩ ⟨Nat.le_of_ble_eq_true rfl, Nat.le_of_ble_eq_true rfl⟩ (x_d hq) ?_)
    rintro _ _ ⟨rfl, rfl⟩
    refine ev_ps 1 rfl (ev_call (av := [_, _, _]) rfl rfl rfl rfl ⟨Nat.le_of_ble_eq_true rfl, rfl⟩ ⟨Nat.le_of_ble_eq_true rfl, Nat.le_of_ble_eq_true rfl⟩ (x_with _ _ _) ?_)
    rintro _ _ ⟨rfl, rfl⟩
    refine ev_ret rfl rfl ⟨⟨_, rfl, ?_, fun k hk => ?_⟩, rfl⟩
    · unfold rz_sp
      by_cases h0 : q.2.1 = 0
      · rw [if_pos h0.symm, if_pos h0]
      · rw [if_neg (fun z => h0 z.symm)]; exact hr.1
    · rw [rz_wv (by omega) hk]
      unfold rz_sp
      by_cases hkd : k = q.2.1
      · by_cases h0 : q.2.1 = 0
        · rw [if_neg (fun z => z.2 h0), if_pos hkd, if_pos h0, hr.2 k hk, hkd, h0]
          exact hr.1
        · rw [if_pos ⟨hkd, h0⟩, if_pos hkd, if_neg h0]
          exact hval
      · rw [if_neg (fun z => hkd z.1), if_neg hkd]
        exact hr.2 k hk
  have body : ∀ (y : Int32), y = (if q.1 ≤ 5 then x q.2.2.2 else Int32.ofNat q.2.2.2) → rz_E xs xl 37 34 [some (.int (rz_pk q)), some (.int r), some (.int (Int32.ofNat q.1)), some (.int (x q.2.2.1)), none, none] [.int y] w 0 0 (fun u w' => (∃ r', u = .inl (some (.int r')) ∧ rz_rg r' (rz_sp q x)) ∧ w' = w) := by
    intro y hy
    refine ev_ps 1 rfl ?_
    rw [hy]
    generalize x q.2.2.1 = xa at fin ⊢
    generalize (if q.1 ≤ 5 then x q.2.2.2 else Int32.ofNat q.2.2.2) = xb at fin ⊢
    generalize rz_pk q = code at fin ⊢
    generalize hop : q.1 = op at fin ⊢
    rcases (show op = 0 ∨ op = 1 ∨ op = 2 ∨ op = 3 ∨ op = 4 ∨ op = 5 ∨ op = 6 ∨ op = 7 ∨ op = 8 ∨ op = 9 by omega) with h | h | h | h | h | h | h | h | h | h
    · rw [h] at fin ⊢; exact ev_ps 7 rfl (fin _ rfl)
    · rw [h] at fin ⊢; exact ev_ps 7 rfl (fin _ rfl)
    · rw [h] at fin ⊢; exact ev_ps 7 rfl (fin _ rfl)
    · rw [h] at fin ⊢; exact ev_ps 7 rfl (fin _ rfl)
    · rw [h] at fin ⊢; exact ev_ps 7 rfl (fin _ rfl)
    · rw [h] at fin ⊢
      refine ev_ps 4 rfl (ev_ic (cd := .ge) rfl (fun h => ?_) (fun h => ?_))
      · exact ev_ps 3 rfl (fin 0 (by rw [rz_made, if_neg (by decide), if_neg (by decide), if_neg (by decide), if_neg (by decide), if_neg (by decide), if_pos rfl, if_neg (fun q => Int32.not_lt.mpr (rc_ge_t h) q)]))
      · exact ev_ps 4 rfl (fin 1 (by rw [rz_made, if_neg (by decide), if_neg (by decide), if_neg (by decide), if_neg (by decide), if_neg (by decide), if_pos rfl, if_pos (Int32.not_le.mp (rc_ge_f h))]))
    · rw [h] at fin ⊢; exact ev_ps 7 rfl (fin _ rfl)
    · rw [h] at fin ⊢; exact ev_ps 7 rfl (fin _ rfl)
    · rw [h] at fin ⊢; exact ev_ps 7 rfl (fin _ rfl)
    · rw [h] at fin ⊢; exact ev_ps 7 rfl (fin _ rfl)
  refine ev_ps 1 rfl (ev_call (av := [_]) rfl rfl rfl rfl ⟨Nat.le_of_ble_eq_true rfl, rfl⟩ ⟨Nat.le_of_ble_eq_true rfl, Nat.le_of_ble_eq_true rfl⟩ (x_op hq) ?_)
  rintro _ _ ⟨rfl, rfl⟩
  refine ev_ps 3 rfl (ev_call (av := [_]) rfl rfl rfl rfl ⟨Nat.le_of_ble_eq_true rfl, rfl⟩ ⟨Nat.le_of_ble_eq_true rfl, Nat.le_of_ble_eq_true rfl⟩ (x_s hq) ?_)
  rintro _ _ ⟨rfl, rfl⟩
  refine ev_call (av := [_, _]) rfl rfl rfl rfl ⟨Nat.le_of_ble_eq_true rfl, rfl⟩ ⟨Nat.le_of_ble_eq_true rfl, Nat.le_of_ble_eq_true rfl⟩ (x_value hr (by omega)) ?_
  rintro _ _ ⟨rfl, rfl⟩
  refine ev_ps 3 rfl (ev_ic (cd := .gt) rfl (fun h => ?_) (fun h => ?_))
  · have h1 := rn_gt_t (k := 5) (by omega) (by omega) h
    refine ev_ps 1 rfl (ev_call (av := [_]) rfl rfl rfl rfl ⟨Nat.le_of_ble_eq_true rfl, rfl⟩ ⟨Nat.le_of_ble_eq_true rfl, Nat.le_of_ble_eq_true rfl⟩ (x_t hq) ?_)
    rintro _ _ ⟨rfl, rfl⟩
    exact body _ (by rw [if_neg (by omega)])
  · have h1 := rn_gt_f (k := 5) (by omega) (by omega) h
    refine ev_ps 2 rfl (ev_call (av := [_]) rfl rfl rfl rfl ⟨Nat.le_of_ble_eq_true rfl, rfl⟩ ⟨Nat.le_of_ble_eq_true rfl, Nat.le_of_ble_eq_true rfl⟩ (x_t hq) ?_)
    rintro _ _ ⟨rfl, rfl⟩
    refine ev_call (av := [_, _]) rfl rfl rfl rfl ⟨Nat.le_of_ble_eq_true rfl, rfl⟩ ⟨Nat.le_of_ble_eq_true rfl, Nat.le_of_ble_eq_true rfl⟩ (x_value hr (by have := b5 h1; omega)) ?_
    rintro _ _ ⟨rfl, rfl⟩
    exact ev_ps 1 rfl (body _ (by rw [if_pos h1]))
end RZY1
