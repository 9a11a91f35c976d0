/-! the class, exactly: codes and registers -/
section RZY1
variable {xs : Nat → Int32} {xl : Nat} {v : Nat → Int32} {a : Nat → Nat → Int32} {g : Nat → Int64} {w : rz_W} {q : rz_Q}
theorem x_op (hq : rz_lg q) : rz_C xs xl 16 [.int (rz_pk q)] w (fun r w' => r = .inl (some (.int (Int32.ofNat q.1))) ∧ w' = w) := by
  have h := c_operation (xs := xs) (xl := xl) (w := w) (rz_pk q)
  rw [rz_pk_o hq] at h
  exact h
theorem x_d (hq : rz_lg q) : rz_C xs xl 18 [.int (rz_pk q)] w (fun r w' => r = .inl (some (.int (Int32.ofNat q.2.1))) ∧ w' = w) := by
  have h := c_d (xs := xs) (xl := xl) (w := w) (rz_pk q)
  rw [rz_pk_d hq] at h
  exact h
theorem x_s (hq : rz_lg q) : rz_C xs xl 20 [.int (rz_pk q)] w (fun r w' => r = .inl (some (.int (Int32.ofNat q.2.2.1))) ∧ w' = w) := by
  have h := c_s (xs := xs) (xl := xl) (w := w) (rz_pk q)
  rw [rz_pk_s hq] at h
  exact h
theorem x_t (hq : rz_lg q) : rz_C xs xl 15 [.int (rz_pk q)] w (fun r w' => r = .inl (some (.int (Int32.ofNat q.2.2.2))) ∧ w' = w) := by
  have h := c_t (xs := xs) (xl := xl) (w := w) (rz_pk q)
  rw [rz_pk_t hq] at h
  exact h
theorem x_with (x0 x1 x2 : Int32) : rz_C xs xl 38 [.int x0, .int x1, .int x2] w (fun r w' => r = .inl (some (.int (rz_wi x0 x1 x2))) ∧ w' = w) := by
  refine ev_ps 1 rfl (ev_if (cd := .ne) rfl (fun h => ?_) (fun h => ?_))
  · exact ev_ps 17 rfl (ev_ret rfl rfl ⟨by rw [rz_wi, if_neg (rc_ne_t h)]; rfl, rfl⟩)
  · exact ev_ps 1 rfl (ev_ret rfl rfl ⟨by rw [rz_wi, if_pos (rc_ne_f h)], rfl⟩)
theorem x_value {r : Int32} {x : Nat → Int32} {k : Nat} (hr : rz_rg r x) (hk : k < 4) : rz_C xs xl 7 [.int r, .int (Int32.ofNat k)] w (fun q w' => q = .inl (some (.int (x k))) ∧ w' = w) := by
  have h := c_value (xs := xs) (xl := xl) (w := w) r (Int32.ofNat k)
  have e : (r >>> (Int32.ofNat k * 4 &&& 31)) &&& 15 = x k := hr.2 k hk
  rw [e] at h
  exact h
theorem x_isPlain (hq : rz_lg q) : rz_C xs xl 26 [.int (rz_pk q)] w (rz_bx w (q.1 ≤ 9)) := by
  have hb := hq.1
  refine ev_ps 1 rfl (ev_call (av := [_]) rfl rfl rfl rfl ⟨Nat.le_of_ble_eq_true rfl, rfl⟩ ⟨Nat.le_of_ble_eq_true rfl, Nat.le_of_ble_eq_true rfl⟩ (x_op hq) ?_)
  rintro _ _ ⟨rfl, rfl⟩
  refine ev_ps 1 rfl (ev_ic (cd := .gt) rfl (fun h => ?_) (fun h => ?_))
  · have h1 := rn_gt_t (k := 9) (by omega) (by omega) h
    exact ev_ps 1 rfl (ev_ret rfl rfl (rz_bx0 (by omega)))
  · have h1 := rn_gt_f (k := 9) (by omega) (by omega) h
    exact ev_ps 2 rfl (ev_ret rfl rfl (rz_bx1 (by omega)))
theorem x_endsBlock (hq : rz_lg q) : rz_C xs xl 28 [.int (rz_pk q)] w (rz_bx w (12 ≤ q.1)) := by
  have hb := hq.1
  refine ev_ps 1 rfl (ev_call (av := [_]) rfl rfl rfl rfl ⟨Nat.le_of_ble_eq_true rfl, rfl⟩ ⟨Nat.le_of_ble_eq_true rfl, Nat.le_of_ble_eq_true rfl⟩ (x_op hq) ?_)
  rintro _ _ ⟨rfl, rfl⟩
  refine ev_ps 1 rfl (ev_ic (cd := .lt) rfl (fun h => ?_) (fun h => ?_))
  · have h1 := rn_lt_t (k := 12) (by omega) (by omega) h
    exact ev_ps 1 rfl (ev_ret rfl rfl (rz_bx0 (by omega)))
  · have h1 := rn_lt_f (k := 12) (by omega) (by omega) h
    exact ev_ps 2 rfl (ev_ret rfl rfl (rz_bx1 (by omega)))
theorem x_hasTarget (hq : rz_lg q) : rz_C xs xl 29 [.int (rz_pk q)] w (rz_bx w (12 ≤ q.1 ∧ q.1 ≤ 14)) := by
  have hb := hq.1
  refine ev_ps 1 rfl (ev_call (av := [_]) rfl rfl rfl rfl ⟨Nat.le_of_ble_eq_true rfl, rfl⟩ ⟨Nat.le_of_ble_eq_true rfl, Nat.le_of_ble_eq_true rfl⟩ (x_op hq) ?_)
  rintro _ _ ⟨rfl, rfl⟩
  refine ev_ps 1 rfl (ev_ic (cd := .lt) rfl (fun h => ?_) (fun h => ?_))
  · have h1 := rn_lt_t (k := 12) (by omega) (by omega) h
    exact ev_ps 1 rfl (ev_ret rfl rfl (rz_bx0 (by omega)))
  · have h1 := rn_lt_f (k := 12) (by omega) (by omega) h
    refine ev_ps 1 rfl (ev_call (av := [_]) rfl rfl rfl rfl ⟨Nat.le_of_ble_eq_true rfl, rfl⟩ ⟨Nat.le_of_ble_eq_true rfl, Nat.le_of_ble_eq_true rfl⟩ (x_op hq) ?_)
    rintro _ _ ⟨rfl, rfl⟩
    refine ev_ps 1 rfl (ev_ic (cd := .gt) rfl (fun h => ?_) (fun h => ?_))
    · have h2 := rn_gt_t (k := 14) (by omega) (by omega) h
      exact ev_ps 1 rfl (ev_ret rfl rfl (rz_bx0 (by omega)))
    · have h2 := rn_gt_f (k := 14) (by omega) (by omega) h
      exact ev_ps 2 rfl (ev_ret rfl rfl (rz_bx1 (by omega)))
theorem x_hasNumber (hq : rz_lg q) : rz_C xs xl 41 [.int (rz_pk q)] w (rz_bx w (6 ≤ q.1 ∧ q.1 ≤ 9)) := by
  have hb := hq.1
  refine ev_ps 1 rfl (ev_call (av := [_]) rfl rfl rfl rfl ⟨Nat.le_of_ble_eq_true rfl, rfl⟩ ⟨Nat.le_of_ble_eq_true rfl, Nat.le_of_ble_eq_true rfl⟩ (x_op hq) ?_)
  rintro _ _ ⟨rfl, rfl⟩
  refine ev_ps 1 rfl (ev_ic (cd := .lt) rfl (fun h => ?_) (fun h => ?_))
  · have h1 := rn_lt_t (k := 6) (by omega) (by omega) h
    exact ev_ps 1 rfl (ev_ret rfl rfl (rz_bx0 (by omega)))
  · have h1 := rn_lt_f (k := 6) (by omega) (by omega) h
    refine ev_ps 1 rfl (ev_call (av := [_]) rfl rfl rfl rfl ⟨Nat.le_of_ble_eq_true rfl, rfl⟩ ⟨Nat.le_of_ble_eq_true rfl, Nat.le_of_ble_eq_true rfl⟩ (x_op hq) ?_)
    rintro _ _ ⟨rfl, rfl⟩
    refine ev_ps 1 rfl (ev_ic (cd := .gt) rfl (fun h => ?_) (fun h => ?_))
    · have h2 := rn_gt_t (k := 9) (by omega) (by omega) h
      exact ev_ps 1 rfl (ev_ret rfl rfl (rz_bx0 (by omega)))
    · have h2 := rn_gt_f (k := 9) (by omega) (by omega) h
      exact ev_ps 2 rfl (ev_ret rfl rfl (rz_bx1 (by omega)))
def rz_wb (q : rz_Q) : Int32 := if q.1 ≤ 10 then 1 <<< (Int32.ofNat q.2.1 &&& 31) else 0
def rz_rb (q : rz_Q) : Int32 := if q.1 ≤ 5 then (1 <<< (Int32.ofNat q.2.2.1 &&& 31)) ||| (1 <<< (Int32.ofNat q.2.2.2 &&& 31)) else if q.1 ≤ 10 then 1 <<< (Int32.ofNat q.2.2.1 &&& 31) else if q.1 ≤ 13 then (1 <<< (Int32.ofNat q.2.1 &&& 31)) ||| (1 <<< (Int32.ofNat q.2.2.1 &&& 31)) else if q.1 = 15 then 15 else 0
theorem x_writtenBy (hq : rz_lg q) : rz_C xs xl 17 [.int (rz_pk q)] w (fun r w' => r = .inl (some (.int (rz_wb q))) ∧ w' = w) := by
  have hb := hq.1
  refine ev_ps 1 rfl (ev_call (av := [_]) rfl rfl rfl rfl ⟨Nat.le_of_ble_eq_true rfl, rfl⟩ ⟨Nat.le_of_ble_eq_true rfl, Nat.le_of_ble_eq_true rfl⟩ (x_op hq) ?_)
  rintro _ _ ⟨rfl, rfl⟩
  refine ev_ps 1 rfl (ev_ic (cd := .gt) rfl (fun h => ?_) (fun h => ?_))
  · have h1 := rn_gt_t (k := 10) (by omega) (by omega) h
    exact ev_ps 1 rfl (ev_ret rfl rfl ⟨by rw [rz_wb, if_neg (by omega)]; rfl, rfl⟩)
  · have h1 := rn_gt_f (k := 10) (by omega) (by omega) h
    refine ev_ps 2 rfl (ev_call (av := [_]) rfl rfl rfl rfl ⟨Nat.le_of_ble_eq_true rfl, rfl⟩ ⟨Nat.le_of_ble_eq_true rfl, Nat.le_of_ble_eq_true rfl⟩ (x_d hq) ?_)
    rintro _ _ ⟨rfl, rfl⟩
    exact ev_ps 2 rfl (ev_ret rfl rfl ⟨by rw [rz_wb, if_pos (by omega)]; rfl, rfl⟩)
theorem x_readBy (hq : rz_lg q) : rz_C xs xl 19 [.int (rz_pk q)] w (fun r w' => r = .inl (some (.int (rz_rb q))) ∧ w' = w) := by
  have hb := hq.1
  refine ev_ps 1 rfl (ev_call (av := [_]) rfl rfl rfl rfl ⟨Nat.le_of_ble_eq_true rfl, rfl⟩ ⟨Nat.le_of_ble_eq_true rfl, Nat.le_of_ble_eq_true rfl⟩ (x_op hq) ?_)
  rintro _ _ ⟨rfl, rfl⟩
  refine ev_ps 3 rfl (ev_ic (cd := .gt) rfl (fun h => ?_) (fun h => ?_))
  · have h1 := rn_gt_t (k := 5) (by omega) (by omega) h
    refine ev_ps 2 rfl (ev_ic (cd := .gt) rfl (fun h => ?_) (fun h => ?_))
    · have h2 := rn_gt_t (k := 10) (by omega) (by omega) h
      refine ev_ps 2 rfl (ev_ic (cd := .gt) rfl (fun h => ?_) (fun h => ?_))
      · have h3 := rn_gt_t (k := 13) (by omega) (by omega) h
        refine ev_ps 2 rfl (ev_ic (cd := .ne) rfl (fun h => ?_) (fun h => ?_))
        · have h4 : ¬ q.1 = 15 := fun z => rc_ne_t h (by rw [z]; rfl)
          exact ev_ps 1 rfl (ev_ret rfl rfl ⟨by rw [rz_rb, if_neg (by omega), if_neg (by omega), if_neg (by omega), if_neg h4]; rfl, rfl⟩)
        · have h4 : q.1 = 15 := (rz_eq_iff (k := 15) (by omega) (by omega)).mp (rc_ne_f h)
          exact ev_ps 2 rfl (ev_ret rfl rfl ⟨by rw [rz_rb, if_neg (by omega), if_neg (by omega), if_neg (by omega), if_pos h4]; rfl, rfl⟩)
      · have h3 := rn_gt_f (k := 13) (by omega) (by omega) h
        refine ev_ps 2 rfl (ev_call (av := [_]) rfl rfl rfl rfl ⟨Nat.le_of_ble_eq_true rfl, rfl⟩ ⟨Nat.le_of_ble_eq_true rfl, Nat.le_of_ble_eq_true rfl⟩ (x_d hq) ?_)
        rintro _ _ ⟨rfl, rfl⟩
        refine ev_ps 3 rfl (ev_call (av := [_]) rfl rfl rfl rfl ⟨Nat.le_of_ble_eq_true rfl, rfl⟩ ⟨Nat.le_of_ble_eq_true rfl, Nat.le_of_ble_eq_true rfl⟩ (x_s hq) ?_)
        rintro _ _ ⟨rfl, rfl⟩
        exact ev_ps 2 rfl (ev_ret rfl rfl ⟨by rw [rz_rb, if_neg (by omega), if_neg (by omega), if_pos (by omega)]; rfl, rfl⟩)
    · have h2 := rn_gt_f (k := 10) (by omega) (by omega) h
      refine ev_ps 2 rfl (ev_call (av := [_]) rfl rfl rfl rfl ⟨Nat.le_of_ble_eq_true rfl, rfl⟩ ⟨Nat.le_of_ble_eq_true rfl, Nat.le_of_ble_eq_true rfl⟩ (x_s hq) ?_)
      rintro _ _ ⟨rfl, rfl⟩
      exact ev_ps 1 rfl (ev_ret rfl rfl ⟨by rw [rz_rb, if_neg (by omega), if_pos (by omega)]; rfl, rfl⟩)
  · have h1 := rn_gt_f (k := 5) (by omega) (by omega) h
    refine ev_ps 2 rfl (ev_call (av := [_]) rfl rfl rfl rfl ⟨Nat.le_of_ble_eq_true rfl, rfl⟩ ⟨Nat.le_of_ble_eq_true rfl, Nat.le_of_ble_eq_true rfl⟩ (x_s hq) ?_)
    rintro _ _ ⟨rfl, rfl⟩
    refine ev_ps 3 rfl (ev_call (av := [_]) rfl rfl rfl rfl ⟨Nat.le_of_ble_eq_true rfl, rfl⟩ ⟨Nat.le_of_ble_eq_true rfl, Nat.le_of_ble_eq_true rfl⟩ (x_t hq) ?_)
    rintro _ _ ⟨rfl, rfl⟩
    exact ev_ps 2 rfl (ev_ret rfl rfl ⟨by rw [rz_rb, if_pos (by omega)]; rfl, rfl⟩)
theorem x_regsAfter {r : Int32} {x : Nat → Int32} (hq : rz_lg q) (h9 : q.1 ≤ 9) (hr : rz_rg r x) : rz_C xs xl 37 [.int (rz_pk q), .int r] w (fun u w' => (∃ r', u = .inl (some (.int r')) ∧ rz_rg r' (rz_sp q x)) ∧ w' = w) := by
  have hq' := hq
  obtain ⟨b1, b2, b3, b4, b5⟩ := hq'
  have fin : ∀ val : Int32, val &&& 15 = rz_made q.1 (x q.2.2.1) (if q.1 ≤ 5 then x q.2.2.2 else Int32.ofNat q.2.2.2) → rz_E xs xl 37 164 [some (.int (rz_pk q)), some (.int r), some (.int (Int32.ofNat q.1)), some (.int (x q.2.2.1)), some (.int (if q.1 ≤ 5 then x q.2.2.2 else Int32.ofNat q.2.2.2)), some (.int val)] [] w 0 0 (fun u w' => (∃ r', u = .inl (some (.int r')) ∧ rz_rg r' (rz_sp q x)) ∧ w' = w) := by
    intro val hval
    refine ev_ps 2 rfl (ev_call (av := [_]) rfl rfl rfl rfl ⟨Nat.le_of_ble_eq_true rfl, rfl⟩ ⟨Nat.le_of_ble_eq_true rfl, Nat.le_of_ble_eq_true rfl⟩ (x_d hq) ?_)
    rintro _ _ ⟨rfl, rfl⟩
    refine ev_ps 1 rfl (ev_call (av := [_, _, _]) rfl rfl rfl rfl ⟨Nat.le_of_ble_eq_true rfl, rfl⟩ ⟨Nat.le_of_ble_eq_true rfl, Nat.le_of_ble_eq_true rfl⟩ (x_with _ _ _) ?_)
    rintro _ _ ⟨rfl, rfl⟩
    refine ev_ret rfl rfl ⟨⟨_, rfl, ?_, fun k hk => ?_⟩, rfl⟩
    · unfold rz_sp
      by_cases h0 : q.2.1 = 0
      · rw [if_pos h0.symm, if_pos h0]
      · rw [if_neg (fun z => h0 z.symm)]; exact hr.1
    · rw [rz_wv (by omega) hk]
      unfold rz_sp
      by_cases hkd : k = q.2.1
      · by_cases h0 : q.2.1 = 0
        · rw [if_neg (fun z => z.2 h0), if_pos hkd, if_pos h0, hr.2 k hk, hkd, h0]
          exact hr.1
        · rw [if_pos ⟨hkd, h0⟩, if_pos hkd, if_neg h0]
          exact hval
      · rw [if_neg (fun z => hkd z.1), if_neg hkd]
        exact hr.2 k hk
  have body : ∀ (y : Int32), y = (if q.1 ≤ 5 then x q.2.2.2 else Int32.ofNat q.2.2.2) → rz_E xs xl 37 34 [some (.int (rz_pk q)), some (.int r), some (.int (Int32.ofNat q.1)), some (.int (x q.2.2.1)), none, none] [.int y] w 0 0 (fun u w' => (∃ r', u = .inl (some (.int r')) ∧ rz_rg r' (rz_sp q x)) ∧ w' = w) := by
    intro y hy
    refine ev_ps 1 rfl ?_
    rw [hy]
    generalize x q.2.2.1 = xa at fin ⊢
    generalize (if q.1 ≤ 5 then x q.2.2.2 else Int32.ofNat q.2.2.2) = xb at fin ⊢
    generalize rz_pk q = code at fin ⊢
    generalize hop : q.1 = op at fin ⊢
    rcases (show op = 0 ∨ op = 1 ∨ op = 2 ∨ op = 3 ∨ op = 4 ∨ op = 5 ∨ op = 6 ∨ op = 7 ∨ op = 8 ∨ op = 9 by omega) with h | h | h | h | h | h | h | h | h | h
    · rw [h] at fin ⊢; exact ev_ps 7 rfl (fin _ rfl)
    · rw [h] at fin ⊢; exact ev_ps 7 rfl (fin _ rfl)
    · rw [h] at fin ⊢; exact ev_ps 7 rfl (fin _ rfl)
    · rw [h] at fin ⊢; exact ev_ps 7 rfl (fin _ rfl)
    · rw [h] at fin ⊢; exact ev_ps 7 rfl (fin _ rfl)
    · rw [h] at fin ⊢
      refine ev_ps 4 rfl (ev_ic (cd := .ge) rfl (fun h => ?_) (fun h => ?_))
      · exact ev_ps 3 rfl (fin 0 (by rw [rz_made, if_neg (by decide), if_neg (by decide), if_neg (by decide), if_neg (by decide), if_neg (by decide), if_pos rfl, if_neg (fun q => Int32.not_lt.mpr (rc_ge_t h) q)]))
      · exact ev_ps 4 rfl (fin 1 (by rw [rz_made, if_neg (by decide), if_neg (by decide), if_neg (by decide), if_neg (by decide), if_neg (by decide), if_pos rfl, if_pos (Int32.not_le.mp (rc_ge_f h))]))
    · rw [h] at fin ⊢; exact ev_ps 7 rfl (fin _ rfl)
    · rw [h] at fin ⊢; exact ev_ps 7 rfl (fin _ rfl)
    · rw [h] at fin ⊢; exact ev_ps 7 rfl (fin _ rfl)
    · rw [h] at fin ⊢; exact ev_ps 7 rfl (fin _ rfl)
  refine ev_ps 1 rfl (ev_call (av := [_]) rfl rfl rfl rfl ⟨Nat.le_of_ble_eq_true rfl, rfl⟩ ⟨Nat.le_of_ble_eq_true rfl, Nat.le_of_ble_eq_true rfl⟩ (x_op hq) ?_)
  rintro _ _ ⟨rfl, rfl⟩
  refine ev_ps 3 rfl (ev_call (av := [_]) rfl rfl rfl rfl ⟨Nat.le_of_ble_eq_true rfl, rfl⟩ ⟨Nat.le_of_ble_eq_true rfl, Nat.le_of_ble_eq_true rfl⟩ (x_s hq) ?_)
  rintro _ _ ⟨rfl, rfl⟩
  refine ev_call (av := [_, _]) rfl rfl rfl rfl ⟨Nat.le_of_ble_eq_true rfl, rfl⟩ ⟨Nat.le_of_ble_eq_true rfl, Nat.le_of_ble_eq_true rfl⟩ (x_value hr (by omega)) ?_
  rintro _ _ ⟨rfl, rfl⟩
  refine ev_ps 3 rfl (ev_ic (cd := .gt) rfl (fun h => ?_) (fun h => ?_))
  · have h1 := rn_gt_t (k := 5) (by omega) (by omega) h
    refine ev_ps 1 rfl (ev_call (av := [_]) rfl rfl rfl rfl ⟨Nat.le_of_ble_eq_true rfl, rfl⟩ ⟨Nat.le_of_ble_eq_true rfl, Nat.le_of_ble_eq_true rfl⟩ (x_t hq) ?_)
    rintro _ _ ⟨rfl, rfl⟩
    exact body _ (by rw [if_neg (by omega)])
  · have h1 := rn_gt_f (k := 5) (by omega) (by omega) h
    refine ev_ps 2 rfl (ev_call (av := [_]) rfl rfl rfl rfl ⟨Nat.le_of_ble_eq_true rfl, rfl⟩ ⟨Nat.le_of_ble_eq_true rfl, Nat.le_of_ble_eq_true rfl⟩ (x_t hq) ?_)
    rintro _ _ ⟨rfl, rfl⟩
    refine ev_call (av := [_, _]) rfl rfl rfl rfl ⟨Nat.le_of_ble_eq_true rfl, rfl⟩ ⟨Nat.le_of_ble_eq_true rfl, Nat.le_of_ble_eq_true rfl⟩ (x_value hr (by have := b5 h1; omega)) ?_
    rintro _ _ ⟨rfl, rfl⟩
    exact ev_ps 1 rfl (body _ (by rw [if_pos h1]))
end RZY1
/-! the class, exactly: the program -/
section RZY2
variable {xs : Nat → Int32} {xl : Nat} {v : Nat → Int32} {a : Nat → Nat → Int32} {g : Nat → Int64} {R : Nat → rz_Q} {n : Nat}
theorem y_codeAt {k : Nat} (hk : k < 24) : rz_C xs xl 13 [.ref 1, .int (Int32.ofNat k)] (rz_w v a g) (fun r w' => r = .inl (some (.int (a 0 k))) ∧ w' = rz_w v a g) := by
  refine ev_ps 3 rfl (ev_ald rfl rfl (rz_in hk (by decide)) ?_)
  exact ev_ret rfl rfl ⟨by rw [rz_clamp (by omega)], rfl⟩
theorem y_has (x : Int32) : rz_C xs xl 21 [.ref 1, .int x] (rz_w v a g) (rz_bx (rz_w v a g) (¬ x < 0 ∧ x < v 0)) := by
  refine ev_ps 1 rfl (ev_if (cd := .lt) rfl (fun h => ?_) (fun h => ?_))
  · exact ev_ps 1 rfl (ev_ret rfl rfl (rz_bx0 (fun q => q.1 (rc_lt_t h))))
  · refine ev_ps 3 rfl (ev_ic (cd := .ge) rfl (fun h1 => ?_) (fun h1 => ?_))
    · exact ev_ps 1 rfl (ev_ret rfl rfl (rz_bx0 (fun q => Int32.not_lt.mpr (rc_ge_t h1) q.2)))
    · exact ev_ps 2 rfl (ev_ret rfl rfl (rz_bx1 ⟨rc_lt_f h, Int32.not_le.mp (rc_ge_f h1)⟩))
theorem y_hasAll {p m : Nat} (hv : v 0 = Int32.ofNat n) (hn : n ≤ 24) (hp : p ≤ 24) (hm : m ≤ 3) (hm1 : 1 ≤ m) : rz_C xs xl 24 [.ref 1, .int (Int32.ofNat p), .int (Int32.ofNat m)] (rz_w v a g) (rz_bx (rz_w v a g) (p + m ≤ n)) := by
  refine ev_ps 1 rfl (ev_if (cd := .eq) rfl (fun h => ?_) (fun h => ?_))
  · have := (rz_eq_iff (k := 0) (by omega) (by omega)).mp (rc_eq_t h)
    omega
  · refine ev_ps 1 rfl (ev_if (cd := .lt) rfl (fun h1 => ?_) (fun h1 => ?_))
    · exact absurd (rn_lt_t (k := 0) (by omega) (by omega) h1) (by omega)
    · refine ev_ps 5 rfl (ev_ic (cd := .gt) rfl (fun h2 => ?_) (fun h2 => ?_))
      · rw [hv] at h2
        refine ev_ps 1 rfl (ev_ret rfl rfl (rz_bx0 (fun hle => ?_)))
        rw [rz_sub (by omega)] at h2
        exact absurd (rn_gt_t (by omega) (by omega) h2) (by omega)
      · rw [hv] at h2
        refine ev_ps 2 rfl (ev_ret rfl rfl (rz_bx1 ?_))
        by_cases hmn : m ≤ n
        · rw [rz_sub hmn] at h2
          have := rn_gt_f (by omega) (by omega) h2
          omega
        · exfalso
          apply rc_gt_f h2
          have hneg : Int32.ofNat n - Int32.ofNat m < 0 := by
            have key : ∀ m, m < 4 → ∀ n, n < 4 → n < m → Int32.ofNat n - Int32.ofNat m < 0 := by decide +kernel
            exact key m (by omega) n (by omega) (by omega)
          rw [Int32.lt_iff_toInt_lt] at hneg ⊢
          rw [rz_toInt (by omega)]
          have h0 : (0 : Int32).toInt = 0 := rfl
          omega
theorem y_allPlain {p m : Nat} (hpm : p + m ≤ n) (hn : n ≤ 24) (hpc : rz_pc a R n) (hl : rz_lgs R n) : rz_C xs xl 25 [.ref 1, .int (Int32.ofNat p), .int (Int32.ofNat m)] (rz_w v a g) (rz_bx (rz_w v a g) (rz_pl R p m)) := by
  refine ev_ps 2 rfl ?_
  refine ev_loop (α := Nat) (fun r => m - r) (fun r => r ≤ m ∧ ∀ k, p ≤ k → k < p + r → (R k).1 ≤ 9) (fun r => [some (.ref 1), some (.int (Int32.ofNat p)), some (.int (Int32.ofNat m)), some (.int (Int32.ofNat r))]) (fun _ => []) (fun _ => rz_w v a g) ?_ 0 ⟨Nat.zero_le _, fun k h1 h2 => absurd h2 (by omega)⟩
  rintro k ⟨hk, hall⟩ ih
  refine ev_ps 2 rfl (ev_ic (cd := .ge) rfl (fun h => ?_) (fun h => ?_))
  · have hkm : m ≤ k := rn_ge_t (by omega) (by omega) h
    exact ev_ps 1 rfl (ev_ret rfl rfl (rz_bx1 (fun j h1 h2 => hall j h1 (by omega))))
  · have hk' : k < m := rn_ge_f (by omega) (by omega) h
    refine ev_ps 5 rfl (ev_ald rfl rfl (by rw [rz_add]; exact rz_in (by omega) (by decide)) ?_)
    rw [rz_add, rz_clamp (k := p + k) (by omega), hpc (p + k) (by omega)]
    refine ev_call (av := [_]) rfl rfl rfl rfl ⟨Nat.le_of_ble_eq_true rfl, rfl⟩ ⟨Nat.le_of_ble_eq_true rfl, Nat.le_of_ble_eq_true rfl⟩ (x_isPlain (hl (p + k) (by omega))) ?_
    rintro _ _ ⟨⟨u, hu, hui, rfl⟩, rfl⟩
    refine ev_if (cd := .ne) rfl (fun h1 => ?_) (fun h1 => ?_)
    · have h2 : (R (p + k)).1 ≤ 9 := hui.mp (hu.resolve_left (rc_ne_t h1))
      have h9 := ih (k + 1) ⟨by omega, fun j j1 j2 => by
        by_cases hjk : j = p + k
        · rw [hjk]; exact h2
        · exact hall j j1 (by omega)⟩ (by omega)
      rw [← rz_succ k] at h9
      exact ev_ps 2 rfl h9
    · have h2 : ¬ (R (p + k)).1 ≤ 9 := fun z => absurd ((rc_ne_f h1).symm.trans (hui.mpr z)) (by decide)
      exact ev_ps 1 rfl (ev_ret rfl rfl (rz_bx0 (fun z => h2 (z (p + k) (by omega) (by omega)))))
theorem y_beginsBlock {p : Nat} (hv : v 0 = Int32.ofNat n) (hn : n ≤ 24) (hp : p ≤ n) (hpc : rz_pc a R n) (hl : rz_lgs R n) : rz_C xs xl 27 [.ref 1, .int (Int32.ofNat p)] (rz_w v a g) (rz_bx (rz_w v a g) (rz_bn R n p)) := by
  have main : ¬ (p = 0 ∨ 12 ≤ (R (p - 1)).1) → rz_E xs xl 27 20 [some (.ref 1), some (.int (Int32.ofNat p)), none] [] (rz_w v a g) 0 0 (rz_bx (rz_w v a g) (rz_bn R n p)) := by
    intro hno
    refine ev_ps 2 rfl ?_
    refine ev_loop (α := Nat) (fun r => n - r) (fun r => r ≤ n ∧ ∀ k, k < r → ¬ (12 ≤ (R k).1 ∧ (R k).1 ≤ 14 ∧ (R k).2.2.2 = p)) (fun r => [some (.ref 1), some (.int (Int32.ofNat p)), some (.int (Int32.ofNat r))]) (fun _ => []) (fun _ => rz_w v a g) ?_ 0 ⟨Nat.zero_le _, fun k h2 => absurd h2 (by omega)⟩
    rintro k ⟨hk, hall⟩ ih
    refine ev_ps 3 rfl (ev_ic (cd := .ge) rfl (fun h => ?_) (fun h => ?_))
    · rw [hv] at h
      have hkn : n ≤ k := rn_ge_t (by omega) (by omega) h
      refine ev_ps 1 rfl (ev_ret rfl rfl (rz_bx0 (fun z => ?_)))
      rcases z with z | z | ⟨j, hj, z⟩
      · exact hno (Or.inl z)
      · exact hno (Or.inr z)
      · exact hall j (by omega) z
    · rw [hv] at h
      have hk' : k < n := rn_ge_f (by omega) (by omega) h
      have hlk := hl k hk'
      have hin : ¬ (Int32.ofNat k < 0 ∨ 24 ≤ (Int32.ofNat k).toNatClampNeg) := rz_in (by omega) (by decide)
      have e := rz_clamp (k := k) (by omega)
      have next : ¬ (12 ≤ (R k).1 ∧ (R k).1 ≤ 14 ∧ (R k).2.2.2 = p) → rz_E xs xl 27 57 [some (.ref 1), some (.int (Int32.ofNat p)), some (.int (Int32.ofNat k))] [] (rz_w v a g) 0 0 (rz_bx (rz_w v a g) (rz_bn R n p)) := fun hnk => by
        have h9 := ih (k + 1) ⟨by omega, fun j hj => by
          by_cases hjk : j = k
          · rw [hjk]; exact hnk
          · exact hall j (by omega)⟩ (by omega)
        rw [← rz_succ k] at h9
        exact ev_ps 2 rfl h9
      refine ev_ps 3 rfl (ev_ald rfl rfl hin ?_)
      rw [e, hpc k hk']
      refine ev_call (av := [_]) rfl rfl rfl rfl ⟨Nat.le_of_ble_eq_true rfl, rfl⟩ ⟨Nat.le_of_ble_eq_true rfl, Nat.le_of_ble_eq_true rfl⟩ (x_hasTarget hlk) ?_
      rintro _ _ ⟨⟨u, hu, hui, rfl⟩, rfl⟩
      refine ev_if (cd := .eq) rfl (fun h1 => ?_) (fun h1 => ?_)
      · exact next (fun z => absurd ((rc_eq_t h1).symm.trans (hui.mpr ⟨z.1, z.2.1⟩)) (by decide))
      · have hT := hui.mp (hu.resolve_left (rc_eq_f h1))
        refine ev_ps 3 rfl (ev_ald rfl rfl hin ?_)
        rw [e, hpc k hk']
        refine ev_call (av := [_]) rfl rfl rfl rfl ⟨Nat.le_of_ble_eq_true rfl, rfl⟩ ⟨Nat.le_of_ble_eq_true rfl, Nat.le_of_ble_eq_true rfl⟩ (x_t hlk) ?_
        rintro _ _ ⟨rfl, rfl⟩
        refine ev_ps 1 rfl (ev_ic (cd := .ne) rfl (fun h2 => ?_) (fun h2 => ?_))
        · exact next (fun z => rc_ne_t h2 (by rw [z.2.2]))
        · have h3 : (R k).2.2.2 = p := (rz_eq_iff (by have := hlk.2.2.2.1; omega) (by omega)).mp (rc_ne_f h2)
          exact ev_ps 1 rfl (ev_ret rfl rfl (rz_bx1 (Or.inr (Or.inr ⟨k, hk', hT.1, hT.2, h3⟩))))
  refine ev_ps 1 rfl (ev_if (cd := .eq) rfl (fun h => ?_) (fun h => ?_))
  · have h0 : p = 0 := (rz_eq_iff (k := 0) (by omega) (by omega)).mp (rc_eq_t h)
    exact ev_ps 1 rfl (ev_ret rfl rfl (rz_bx1 (Or.inl h0)))
  · have hp0 : 0 < p := by
      rcases Nat.eq_zero_or_pos p with rfl | h1
      · exact absurd rfl (rc_eq_f h)
      · exact h1
    have ep : Int32.ofNat p - Int32.ofInt 1 = Int32.ofNat (p - 1) := rz_sub (n := 1) hp0
    refine ev_ps 5 rfl (ev_ald rfl rfl (by rw [ep]; exact rz_in (by omega) (by decide)) ?_)
    rw [ep, rz_clamp (k := p - 1) (by omega), hpc (p - 1) (by omega)]
    refine ev_call (av := [_]) rfl rfl rfl rfl ⟨Nat.le_of_ble_eq_true rfl, rfl⟩ ⟨Nat.le_of_ble_eq_true rfl, Nat.le_of_ble_eq_true rfl⟩ (x_endsBlock (hl (p - 1) (by omega))) ?_
    rintro _ _ ⟨⟨u, hu, hui, rfl⟩, rfl⟩
    refine ev_if (cd := .eq) rfl (fun h1 => ?_) (fun h1 => ?_)
    · refine main (fun z => z.elim (fun z => by omega) (fun z => absurd ((rc_eq_t h1).symm.trans (hui.mpr z)) (by decide)))
    · exact ev_ps 1 rfl (ev_ret rfl rfl (rz_bx1 (Or.inr (Or.inl (hui.mp (hu.resolve_left (rc_eq_f h1)))))))
theorem y_hasRow {p m : Nat} (hv : v 0 = Int32.ofNat n) (hn : n ≤ 24) (hp : p ≤ 24) (hm : m ≤ 3) (hm1 : 1 ≤ m) (hpc : rz_pc a R n) (hl : rz_lgs R n) : rz_C xs xl 23 [.ref 1, .int (Int32.ofNat p), .int (Int32.ofNat m)] (rz_w v a g) (rz_bx (rz_w v a g) (rz_ir R n p m)) := by
  refine ev_ps 3 rfl (ev_call (av := [_, _, _]) rfl rfl rfl rfl ⟨Nat.le_of_ble_eq_true rfl, rfl⟩ ⟨Nat.le_of_ble_eq_true rfl, Nat.le_of_ble_eq_true rfl⟩ (y_hasAll hv hn hp hm hm1) ?_)
  rintro _ _ ⟨⟨u, hu, hui, rfl⟩, rfl⟩
  refine ev_if (cd := .eq) rfl (fun h1 => ?_) (fun h1 => ?_)
  · exact ev_ps 1 rfl (ev_ret rfl rfl (rz_bx0 (fun z => absurd ((rc_eq_t h1).symm.trans (hui.mpr z.1)) (by decide))))
  have hle : p + m ≤ n := hui.mp (hu.resolve_left (rc_eq_f h1))
  refine ev_ps 3 rfl (ev_call (av := [_, _, _]) rfl rfl rfl rfl ⟨Nat.le_of_ble_eq_true rfl, rfl⟩ ⟨Nat.le_of_ble_eq_true rfl, Nat.le_of_ble_eq_true rfl⟩ (y_allPlain hle hn hpc hl) ?_)
  rintro _ _ ⟨⟨u2, hu2, hui2, rfl⟩, rfl⟩
  refine ev_if (cd := .ne) rfl (fun h2 => ?_) (fun h2 => ?_)
  · have hpl : rz_pl R p m := hui2.mp (hu2.resolve_left (rc_ne_t h2))
    refine ev_ps 2 rfl ?_
    refine ev_loop (α := Nat) (fun r => m - r) (fun r => 1 ≤ r ∧ r ≤ m ∧ ∀ k, p < k → k < p + r → ¬ rz_bn R n k) (fun r => [some (.ref 1), some (.int (Int32.ofNat p)), some (.int (Int32.ofNat m)), some (.int (Int32.ofNat r))]) (fun _ => []) (fun _ => rz_w v a g) ?_ 1 ⟨Nat.le_refl _, hm1, fun k h1 h2 => absurd h2 (by omega)⟩
    rintro k ⟨hk1, hk, hall⟩ ih
    refine ev_ps 2 rfl (ev_ic (cd := .ge) rfl (fun h => ?_) (fun h => ?_))
    · have hkm : m ≤ k := rn_ge_t (by omega) (by omega) h
      exact ev_ps 1 rfl (ev_ret rfl rfl (rz_bx1 ⟨hle, hpl, fun j j1 j2 => hall j j1 (by omega)⟩))
    · have hk' : k < m := rn_ge_f (by omega) (by omega) h
      refine ev_ps 4 rfl ?_
      refine ev_call (av := [.ref 1, .int (Int32.ofNat (p + k))]) rfl (by rw [← rz_add]; rfl) rfl rfl ⟨Nat.le_of_ble_eq_true rfl, rfl⟩ ⟨Nat.le_of_ble_eq_true rfl, Nat.le_of_ble_eq_true rfl⟩ (y_beginsBlock hv hn (by omega) hpc hl) ?_
      rintro _ _ ⟨⟨u3, hu3, hui3, rfl⟩, rfl⟩
      refine ev_if (cd := .eq) rfl (fun h3 => ?_) (fun h3 => ?_)
      · have hnb : ¬ rz_bn R n (p + k) := fun z => absurd ((rc_eq_t h3).symm.trans (hui3.mpr z)) (by decide)
        have h9 := ih (k + 1) ⟨by omega, by omega, fun j j1 j2 => by
          by_cases hjk : j = p + k
          · rw [hjk]; exact hnb
          · exact hall j j1 (by omega)⟩ (by omega)
        rw [← rz_succ k] at h9
        exact ev_ps 2 rfl h9
      · have hb : rz_bn R n (p + k) := hui3.mp (hu3.resolve_left (rc_eq_f h3))
        exact ev_ps 1 rfl (ev_ret rfl rfl (rz_bx0 (fun z => z.2.2 (p + k) (by omega) (by omega) hb)))
  · have hpl : ¬ rz_pl R p m := fun z => absurd ((rc_ne_f h2).symm.trans (hui2.mpr z)) (by decide)
    exact ev_ps 1 rfl (ev_ret rfl rfl (rz_bx0 (fun z => hpl z.2.1)))
theorem y_moveTargets {p less : Nat} (hp : p ≤ 24) (hless : less ≤ 24) (hv : v 0 = Int32.ofNat n) (hn : n ≤ 24) (hpc : rz_pc a R n) (hl : rz_lgs R n) (hfar : ∀ k, k < n → 12 ≤ (R k).1 → (R k).1 ≤ 14 → p < (R k).2.2.2 → less ≤ (R k).2.2.2) : rz_C xs xl 46 [.ref 1, .int (Int32.ofNat p), .int (Int32.ofNat less)] (rz_w v a g) (fun r w' => r = .inl none ∧ ∃ f, w' = rz_w v (rz_ua a 0 f) g ∧ ∀ k, k < n → f k = rz_pk (rz_mv p less (R k))) := by
  refine ev_ps 2 rfl (ev_w (w2 := rz_w v (rz_ua a 0 (a 0)) g) rfl ?_)
  refine ev_loop (α := Nat × Option Value × (Nat → Int32)) (fun r => n - r.1) (fun r => r.1 ≤ n ∧ (∀ k, k < r.1 → r.2.2 k = rz_pk (rz_mv p less (R k))) ∧ ∀ k, r.1 ≤ k → k < n → r.2.2 k = rz_pk (R k)) (fun r => [some (.ref 1), some (.int (Int32.ofNat p)), some (.int (Int32.ofNat less)), some (.int (Int32.ofNat r.1)), r.2.1]) (fun _ => []) (fun r => rz_w v (rz_ua a 0 r.2.2) g) ?_ (0, none, a 0) ⟨Nat.zero_le _, fun k hk => absurd hk (Nat.not_lt_zero _), fun k _ hk => hpc k hk⟩
  rintro ⟨k, l4, f⟩ ⟨hk, hdone, htodo⟩ ih
  dsimp only at hk hdone htodo ih ⊢
  refine ev_ps 3 rfl (ev_ic (cd := .ge) rfl (fun h => ?_) (fun h => ?_))
  · have h' : rz_cmp .ge (Int32.ofNat k) (v 0) = true := h
    rw [hv] at h'
    have hkn : n ≤ k := rn_ge_t (by omega) (by omega) h'
    exact ev_ret rfl rfl ⟨rfl, f, rfl, fun j hj => hdone j (by omega)⟩
  · have h' : rz_cmp .ge (Int32.ofNat k) (v 0) = false := h
    rw [hv] at h'
    have hk' : k < n := rn_ge_f (by omega) (by omega) h'
    have hlk := hl k hk'
    have hin : ¬ (Int32.ofNat k < 0 ∨ 24 ≤ (Int32.ofNat k).toNatClampNeg) := rz_in (by omega) (by decide)
    have e := rz_clamp (k := k) (by omega)
    have ef : rz_ua a 0 f 0 k = rz_pk (R k) := htodo k (Nat.le_refl _) hk'
    have next : ∀ f2 : Nat → Int32, (∀ j, j < k + 1 → f2 j = rz_pk (rz_mv p less (R j))) → (∀ j, k + 1 ≤ j → j < n → f2 j = rz_pk (R j)) → rz_E xs xl 46 58 [some (.ref 1), some (.int (Int32.ofNat p)), some (.int (Int32.ofNat less)), some (.int (Int32.ofNat k)), some (.int (Int32.ofNat (R k).2.2.2))] [] (rz_w v (rz_ua a 0 f2) g) 0 0 (fun r w' => r = .inl none ∧ ∃ f, w' = rz_w v (rz_ua a 0 f) g ∧ ∀ k, k < n → f k = rz_pk (rz_mv p less (R k))) := by
      intro f2 h1 h2
      have h9 := ih (k + 1, some (.int (Int32.ofNat (R k).2.2.2)), f2) ⟨by show k + 1 ≤ n; omega, h1, h2⟩ (by show n - (k + 1) < n - k; omega)
      dsimp only at h9
      rw [← rz_succ k] at h9
      exact ev_ps 2 rfl h9
    have same : ¬ (12 ≤ (R k).1 ∧ (R k).1 ≤ 14 ∧ p < (R k).2.2.2) → rz_E xs xl 46 58 [some (.ref 1), some (.int (Int32.ofNat p)), some (.int (Int32.ofNat less)), some (.int (Int32.ofNat k)), some (.int (Int32.ofNat (R k).2.2.2))] [] (rz_w v (rz_ua a 0 f) g) 0 0 (fun r w' => r = .inl none ∧ ∃ f, w' = rz_w v (rz_ua a 0 f) g ∧ ∀ k, k < n → f k = rz_pk (rz_mv p less (R k))) := fun hno => next f (fun j hj => by
      by_cases hjk : j = k
      · rw [hjk, rz_mv, if_neg hno]; exact ef
      · exact hdone j (by omega)) (fun j h1 h2 => htodo j (by omega) h2)
    refine ev_ps 3 rfl (ev_ald rfl rfl hin ?_)
    rw [e, ef]
    refine ev_call (av := [_]) rfl rfl rfl rfl ⟨Nat.le_of_ble_eq_true rfl, rfl⟩ ⟨Nat.le_of_ble_eq_true rfl, Nat.le_of_ble_eq_true rfl⟩ (x_t hlk) ?_
    rintro _ _ ⟨rfl, rfl⟩
    refine ev_ps 4 rfl (ev_ald rfl rfl hin ?_)
    rw [e, ef]
    refine ev_call (av := [_]) rfl rfl rfl rfl ⟨Nat.le_of_ble_eq_true rfl, rfl⟩ ⟨Nat.le_of_ble_eq_true rfl, Nat.le_of_ble_eq_true rfl⟩ (x_hasTarget hlk) ?_
    rintro _ _ ⟨⟨u, hu, hui, rfl⟩, rfl⟩
    refine ev_if (cd := .eq) rfl (fun h1 => ?_) (fun h1 => ?_)
    · exact same (fun z => absurd ((rc_eq_t h1).symm.trans (hui.mpr ⟨z.1, z.2.1⟩)) (by decide))
    have hT := hui.mp (hu.resolve_left (rc_eq_f h1))
    refine ev_ps 2 rfl (ev_ic (cd := .le) rfl (fun h2 => ?_) (fun h2 => ?_))
    · have h3 := rn_le_t (by have := hlk.2.2.2.1; omega) (by omega) h2
      exact same (fun z => by omega)
    have hgt := rn_le_f (by have := hlk.2.2.2.1; omega) (by omega) h2
    have hless2 := hfar k hk' hT.1 hT.2 hgt
    refine ev_ps 6 rfl (ev_ald rfl rfl hin ?_)
    rw [e, ef]
    refine ev_ps 3 rfl ?_
    refine ev_call (av := [.int (rz_pk (R k)), .int (Int32.ofNat ((R k).2.2.2 - less))]) rfl (by rw [← rz_sub hless2]; rfl) rfl rfl ⟨Nat.le_of_ble_eq_true rfl, rfl⟩ ⟨Nat.le_of_ble_eq_true rfl, Nat.le_of_ble_eq_true rfl⟩ (c_withTarget _ _) ?_
    rintro _ _ ⟨rfl, rfl⟩
    rw [show ((rz_pk (R k) &&& -32) ||| Int32.ofNat ((R k).2.2.2 - less)) = rz_pk ((R k).1, (R k).2.1, (R k).2.2.1, (R k).2.2.2 - less) from rz_pk_w hlk _]
    refine ev_ast rfl rfl hin ?_
    rw [e]
    refine ev_w (w2 := rz_w v (rz_ua a 0 (upd f k (rz_pk ((R k).1, (R k).2.1, (R k).2.2.1, (R k).2.2.2 - less)))) g) rfl ?_
    refine next _ (fun j hj => ?_) (fun j j1 j2 => ?_)
    · by_cases hjk : j = k
      · rw [hjk, rz_mv, if_pos ⟨hT.1, hT.2, hgt⟩]; simp [upd]
      · simp only [upd, hjk, if_false]; exact hdone j (by omega)
    · simp only [upd]
      rw [if_neg (by omega)]
      exact htodo j (by omega) j2
theorem rz_pk_ne {q : rz_Q} (h : rz_lg q) : ¬ rz_pk q = -1 ∧ ¬ rz_pk q = -2 := by
  have e := rz_pk_o h
  have key : ∀ o, o < 16 → ¬ (-1 : Int32) >>> (9 &&& 31) = Int32.ofNat o ∧ ¬ (-2 : Int32) >>> (9 &&& 31) = Int32.ofNat o := by decide +kernel
  have h1 := key q.1 (by have := h.1; omega)
  exact ⟨fun z => h1.1 (by rw [← z]; exact e), fun z => h1.2 (by rw [← z]; exact e)⟩
theorem y_putForRow {p m b : Nat} {q : rz_Q} (x : Int32) (hx : (b = 0 ∧ x = -1) ∨ (b = 1 ∧ x = rz_pk q ∧ rz_lg q ∧ q.1 ≤ 9)) (hbm : b ≤ m) (hm : m ≤ 3) (hv : v 0 = Int32.ofNat n) (hn : n ≤ 24) (hir : rz_ir R n p m) (hpc : rz_pc a R n) (hl : rz_lgs R n) : rz_C xs xl 45 [.ref 1, .int (Int32.ofNat p), .int (Int32.ofNat m), .int x] (rz_w v a g) (fun r w' => r = .inl (some (.int (Int32.ofNat b))) ∧ ∃ f, w' = rz_w (rz_up v 0 (Int32.ofNat (n - (m - b)))) (rz_ua a 0 f) g ∧ ∀ k, k < n - (m - b) → f k = rz_pk (rz_cu R p m b q k)) := by
  have hpm := hir.1
  have hq2 : b ≠ 0 → rz_lg q ∧ q.1 ≤ 9 := fun h => hx.elim (fun z => absurd z.1 h) (fun z => z.2.2)
  have hb1 : b ≤ 1 := hx.elim (fun z => by omega) (fun z => by omega)
  have main : ∀ (f0 : Nat → Int32), (∀ k, k < p + b → f0 k = rz_pk (rz_sh R p m b q k)) → (∀ k, p + b ≤ k → k < n → f0 k = rz_pk (R k)) → rz_E xs xl 45 18 [some (.ref 1), some (.int (Int32.ofNat p)), some (.int (Int32.ofNat m)), some (.int x), some (.int (Int32.ofNat b)), none, none] [] (rz_w v (rz_ua a 0 f0) g) 0 0 (fun r w' => r = .inl (some (.int (Int32.ofNat b))) ∧ ∃ f, w' = rz_w (rz_up v 0 (Int32.ofNat (n - (m - b)))) (rz_ua a 0 f) g ∧ ∀ k, k < n - (m - b) → f k = rz_pk (rz_cu R p m b q k)) := by
    intro f0 hlow hhigh
    refine ev_ps 8 rfl (ev_l (L2 := [some (.ref 1), some (.int (Int32.ofNat p)), some (.int (Int32.ofNat m)), some (.int x), some (.int (Int32.ofNat b)), some (.int (Int32.ofNat (m - b))), some (.int (Int32.ofNat (p + b)))]) (by rw [← rz_sub hbm, ← rz_add]; rfl) ?_)
    refine ev_loop (α := Nat × (Nat → Int32)) (fun r => n - r.1) (fun r => p + b ≤ r.1 ∧ r.1 ≤ n - (m - b) ∧ (∀ k, k < r.1 → r.2 k = rz_pk (rz_sh R p m b q k)) ∧ ∀ k, r.1 ≤ k → k < n → r.2 k = rz_pk (R k)) (fun r => [some (.ref 1), some (.int (Int32.ofNat p)), some (.int (Int32.ofNat m)), some (.int x), some (.int (Int32.ofNat b)), some (.int (Int32.ofNat (m - b))), some (.int (Int32.ofNat r.1))]) (fun _ => []) (fun r => rz_w v (rz_ua a 0 r.2) g) ?_ (p + b, f0) ⟨Nat.le_refl _, by show p + b ≤ n - (m - b); omega, hlow, hhigh⟩
    rintro ⟨k, f⟩ ⟨hpk, hk, hlow, hhigh⟩ ih
    dsimp only at hpk hk hlow hhigh ih ⊢
    refine ev_ps 5 rfl (ev_ic (cd := .ge) rfl (fun h => ?_) (fun h => ?_))
    · have h' : rz_cmp .ge (Int32.ofNat k) (v 0 - Int32.ofNat (m - b)) = true := h
      rw [hv, rz_sub (by omega)] at h'
      have hkn : n - (m - b) ≤ k := rn_ge_t (by omega) (by omega) h'
      refine ev_ps 6 rfl (ev_w (w2 := rz_w (rz_up v 0 (Int32.ofNat (n - (m - b)))) (rz_ua a 0 f) g) (by rw [← rz_sub (k := n) (n := m - b) (by omega), ← hv]; rfl) ?_)
      refine ev_ps 3 rfl (ev_call (av := [_, _, _]) rfl rfl rfl rfl ⟨Nat.le_of_ble_eq_true rfl, rfl⟩ ⟨Nat.le_of_ble_eq_true rfl, Nat.le_of_ble_eq_true rfl⟩ (y_moveTargets (v := rz_up v 0 (Int32.ofNat (n - (m - b)))) (a := rz_ua a 0 f) (R := rz_sh R p m b q) (n := n - (m - b)) (by omega) (by omega) rfl (by omega) (fun j hj => hlow j (by omega)) (fun j hj => (rz_sh_ok hl hir hbm hq2 hj).1) (fun j hj h1 h2 h3 => by have := (rz_sh_ok hl hir hbm hq2 hj).2 h1 h2 h3; omega)) ?_)
      rintro _ _ ⟨rfl, f2, rfl, hf2⟩
      refine ev_ps 1 rfl (ev_ret rfl rfl ⟨rfl, f2, rfl, hf2⟩)
    · have h' : rz_cmp .ge (Int32.ofNat k) (v 0 - Int32.ofNat (m - b)) = false := h
      rw [hv, rz_sub (by omega)] at h'
      have hk' : k < n - (m - b) := rn_ge_f (by omega) (by omega) h'
      refine ev_ps 8 rfl (ev_ald rfl rfl (by rw [rz_add]; exact rz_in (by omega) (by decide)) ?_)
      rw [rz_add, rz_clamp (k := k + (m - b)) (by omega), show rz_ua a 0 f 0 (k + (m - b)) = rz_pk (R (k + (m - b))) from hhigh _ (by omega) (by omega)]
      refine ev_ast rfl rfl (rz_in (by omega) (by decide)) ?_
      rw [rz_clamp (k := k) (by omega)]
      have esh : rz_sh R p m b q k = R (k + (m - b)) := by unfold rz_sh; rw [if_neg (by omega), if_neg (by omega)]
      have h9 := ih (k + 1, upd f k (rz_pk (R (k + (m - b))))) ⟨by show p + b ≤ k + 1; omega, by show k + 1 ≤ n - (m - b); omega, fun j hj => by
        by_cases hjk : j = k
        · rw [hjk, esh]; simp [upd]
        · simp only [upd, hjk, if_false]; exact hlow j (by have : j < k + 1 := hj; omega), fun j h1 h2 => by
        simp only [upd]
        rw [if_neg (by have : k + 1 ≤ j := h1; omega)]
        exact hhigh j (by have : k + 1 ≤ j := h1; omega) h2⟩ (by show n - (k + 1) < n - k; omega)
      dsimp only at h9
      rw [← rz_succ k] at h9
      exact ev_w (w2 := rz_w v (rz_ua a 0 (upd f k (rz_pk (R (k + (m - b)))))) g) rfl (ev_ps 2 rfl h9)
  have shl : ∀ k, k < p → rz_sh R p m b q k = R k := fun k hk => by unfold rz_sh; rw [if_pos hk]
  refine ev_ps 4 rfl (ev_ic (cd := .eq) rfl (fun h => ?_) (fun h => ?_))
  · have hb0 : b = 0 := hx.elim (fun z => z.1) (fun z => absurd (z.2.1.symm.trans (rc_eq_t h)) (rz_pk_ne z.2.2.1).1)
    subst hb0
    exact ev_w (w2 := rz_w v (rz_ua a 0 (a 0)) g) rfl (main (a 0) (fun k hk => by rw [shl k (by omega)]; exact hpc k (by omega)) (fun k _ h2 => hpc k h2))
  · obtain ⟨hb0, hxq, hlq, h9q⟩ := hx.resolve_left (fun z => rc_eq_f h (by rw [z.2]; rfl))
    subst hb0
    refine ev_ps 4 rfl (ev_ast rfl rfl (rz_in (by omega) (by decide)) ?_)
    rw [rz_clamp (k := p) (by omega)]
    refine ev_w (w2 := rz_w v (rz_ua a 0 (upd (a 0) p x)) g) rfl (ev_ps 2 rfl (main _ (fun k hk => ?_) (fun k h1 h2 => ?_)))
    · by_cases hkp : k = p
      · have esh : rz_sh R p m 1 q k = q := by unfold rz_sh; rw [if_neg (by omega), if_pos (by omega)]
        rw [esh, hkp]; simp [upd, hxq]
      · simp only [upd, hkp, if_false]
        rw [shl k (by omega)]; exact hpc k (by omega)
    · simp only [upd]
      rw [if_neg (by omega)]
      exact hpc k h2
end RZY2
/-! the class, exactly: liveness -/
section RZY3
variable {xs : Nat → Int32} {xl : Nat} {v : Nat → Int32} {a : Nat → Nat → Int32} {g : Nat → Int64} {R : Nat → rz_Q} {n : Nat}
theorem rz_e1 : ∀ s, s < 4 → ∀ t, t < 4 → ∀ d, d < 4 → ∀ i, i < 8 → (((1 <<< (Int32.ofNat s &&& 31)) ||| (1 <<< (Int32.ofNat t &&& 31))) ||| (Int32.ofNat (2 * i) &&& ((1 <<< (Int32.ofNat d &&& 31)) ^^^ Int32.ofInt (-1)))) &&& 14 = (rz_bit (Int32.ofNat s) ||| rz_bit (Int32.ofNat t)) ||| (Int32.ofNat (2 * i) &&& (rz_bit (Int32.ofNat d) ^^^ Int32.ofInt (-1))) := by decide +kernel
theorem rz_e2 : ∀ s, s < 4 → ∀ d, d < 4 → ∀ i, i < 8 → ((1 <<< (Int32.ofNat s &&& 31)) ||| (Int32.ofNat (2 * i) &&& ((1 <<< (Int32.ofNat d &&& 31)) ^^^ Int32.ofInt (-1)))) &&& 14 = rz_bit (Int32.ofNat s) ||| (Int32.ofNat (2 * i) &&& (rz_bit (Int32.ofNat d) ^^^ Int32.ofInt (-1))) := by decide +kernel
theorem rz_e3 : ∀ d, d < 4 → ∀ s, s < 4 → ∀ i, i < 8 → (((1 <<< (Int32.ofNat d &&& 31)) ||| (1 <<< (Int32.ofNat s &&& 31))) ||| (Int32.ofNat (2 * i) &&& (0 ^^^ Int32.ofInt (-1)))) &&& 14 = (rz_bit (Int32.ofNat d) ||| rz_bit (Int32.ofNat s)) ||| (Int32.ofNat (2 * i) &&& (0 ^^^ Int32.ofInt (-1))) := by decide +kernel
theorem rz_e4 : ∀ i, i < 8 → (0 ||| (Int32.ofNat (2 * i) &&& (0 ^^^ Int32.ofInt (-1)))) &&& 14 = (0 ||| Int32.ofNat (2 * i)) &&& (0 ^^^ Int32.ofInt (-1)) := by decide +kernel
theorem rz_e5 : ∀ i, i < 8 → (15 ||| (Int32.ofNat (2 * i) &&& (0 ^^^ Int32.ofInt (-1)))) &&& 14 = 14 ||| ((0 ||| 0) &&& (0 ^^^ Int32.ofInt (-1))) := by decide +kernel
theorem rz_ev {x : Int32} (h : rz_sb x 14) : ∃ i, i < 8 ∧ x = Int32.ofNat (2 * i) := by
  obtain ⟨i, hi, rfl, e⟩ := rz_14 h
  have key : ∀ i, i < 16 → Int32.ofNat i &&& 14 = Int32.ofNat i → i = 2 * (i / 2) := by decide +kernel
  exact ⟨i / 2, by omega, by rw [← key i hi e]⟩
/-- what lives behind an instruction, as the class has it -/
def rz_bh (n : Nat) (f : Nat → Int32) (q : rz_Q) (k : Nat) : Int32 := if q.1 = 14 then rz_at n f q.2.2.2 else if q.1 = 12 ∨ q.1 = 13 then rz_at n f (k + 1) ||| rz_at n f q.2.2.2 else rz_at n f (k + 1)
theorem rz_live_eq {f : Nat → Int32} {k : Nat} (hq : rz_lg (R k)) (hf : ∀ p, p < n → rz_sb (f p) 14) : (rz_rb (R k) ||| (rz_bh n f (R k) k &&& (rz_wb (R k) ^^^ Int32.ofInt (-1)))) &&& 14 = rz_Fp (rz_fam R) n f k := by
  have hB : rz_sb (rz_at n f (k + 1)) 14 := rz_at14 hf
  have hT : rz_sb (rz_at n f (R k).2.2.2) 14 := rz_at14 hf
  have eF : rz_Fp (rz_fam R) n f k = rz_rd (Int32.ofNat (R k).1) (Int32.ofNat (R k).2.1) (Int32.ofNat (R k).2.2.1) (Int32.ofNat (R k).2.2.2) ||| ((rz_b1 n f (Int32.ofNat (R k).1) k ||| rz_b2 n f (Int32.ofNat (R k).1) (Int32.ofNat (R k).2.2.2).toNatClampNeg) &&& (rz_wr (Int32.ofNat (R k).1) (Int32.ofNat (R k).2.1) ^^^ Int32.ofInt (-1))) := rfl
  rw [eF]
  generalize R k = q at hq hT ⊢
  obtain ⟨b1, b2, b3, b4, b5⟩ := hq
  rw [rz_clamp (k := q.2.2.2) (by omega)]
  have lt : ∀ c, c < 16 → (Int32.ofNat c < Int32.ofNat q.1 ↔ c < q.1) := fun c hc => rz_lt_iff (by omega) (by omega)
  have tl : ∀ c, c < 16 → (Int32.ofNat q.1 < Int32.ofNat c ↔ q.1 < c) := fun c hc => rz_lt_iff (by omega) (by omega)
  have eq : ∀ c, c < 16 → (Int32.ofNat q.1 = Int32.ofNat c ↔ q.1 = c) := fun c hc => rz_eq_iff (by omega) (by omega)
  have l5 := lt 5 (by omega); have l10 := lt 10 (by omega); have l13 := lt 13 (by omega); have l14 := lt 14 (by omega)
  have t12 := tl 12 (by omega); have e14 := eq 14 (by omega); have e15 := eq 15 (by omega)
  have ub1 : ∀ h : ¬ (q.1 = 14 ∨ q.1 = 15), rz_b1 n f (Int32.ofNat q.1) k = rz_at n f (k + 1) := fun h => by unfold rz_b1; rw [if_neg (fun z => h (z.imp e14.mp e15.mp))]
  have ub2 : ∀ h : ¬ (12 ≤ q.1 ∧ q.1 ≤ 14), rz_b2 n f (Int32.ofNat q.1) q.2.2.2 = 0 := fun h => by unfold rz_b2; rw [if_neg (fun z => h ⟨Nat.not_lt.mp (fun y => z.1 (t12.mpr y)), Nat.not_lt.mp (fun y => z.2 (l14.mpr y))⟩)]
  have ub2t : ∀ h : 12 ≤ q.1 ∧ q.1 ≤ 14, rz_b2 n f (Int32.ofNat q.1) q.2.2.2 = rz_at n f q.2.2.2 := fun h => by unfold rz_b2; rw [if_pos ⟨fun z => absurd (t12.mp z) (by omega), fun z => absurd (l14.mp z) (by omega)⟩]
  have uw : ∀ h : q.1 ≤ 10, rz_wr (Int32.ofNat q.1) (Int32.ofNat q.2.1) = rz_bit (Int32.ofNat q.2.1) := fun h => by unfold rz_wr; exact if_neg (fun z => absurd (l10.mp z) (by omega))
  have uw0 : ∀ h : ¬ q.1 ≤ 10, rz_wr (Int32.ofNat q.1) (Int32.ofNat q.2.1) = 0 := fun h => by unfold rz_wr; exact if_pos (l10.mpr (by omega))
  have or0 : ∀ x : Int32, x ||| 0 = x := fun x => Int32.or_zero
  have zor : ∀ x : Int32, 0 ||| x = x := fun x => Int32.zero_or
  obtain ⟨i, hi, eB⟩ := rz_ev hB
  obtain ⟨j, hj, eT⟩ := rz_ev hT
  obtain ⟨m, hm, eBT⟩ := rz_ev (hB.or14 hT)
  by_cases c5 : q.1 ≤ 5
  · have er : rz_rd (Int32.ofNat q.1) (Int32.ofNat q.2.1) (Int32.ofNat q.2.2.1) (Int32.ofNat q.2.2.2) = rz_bit (Int32.ofNat q.2.2.1) ||| rz_bit (Int32.ofNat q.2.2.2) := by unfold rz_rd; exact if_neg (fun z => absurd (l5.mp z) (by omega))
    rw [er, ub1 (by omega), ub2 (by omega), or0, uw (by omega), rz_rb, if_pos c5, rz_bh, if_neg (by omega), if_neg (by omega), rz_wb, if_pos (by omega), eB]
    exact rz_e1 _ (by omega) _ (by have := b5 c5; omega) _ (by omega) i hi
  by_cases c10 : q.1 ≤ 10
  · have er : rz_rd (Int32.ofNat q.1) (Int32.ofNat q.2.1) (Int32.ofNat q.2.2.1) (Int32.ofNat q.2.2.2) = rz_bit (Int32.ofNat q.2.2.1) := by
      unfold rz_rd
      exact (if_pos (l5.mpr (by omega))).trans (if_neg (fun z => absurd (l10.mp z) (by omega)))
    rw [er, ub1 (by omega), ub2 (by omega), or0, uw (by omega), rz_rb, if_neg c5, if_pos c10, rz_bh, if_neg (by omega), if_neg (by omega), rz_wb, if_pos (by omega), eB]
    exact rz_e2 _ (by omega) _ (by omega) i hi
  by_cases c13 : q.1 ≤ 13
  · have er : rz_rd (Int32.ofNat q.1) (Int32.ofNat q.2.1) (Int32.ofNat q.2.2.1) (Int32.ofNat q.2.2.2) = rz_bit (Int32.ofNat q.2.1) ||| rz_bit (Int32.ofNat q.2.2.1) := by
      unfold rz_rd
      exact (if_pos (l5.mpr (by omega))).trans ((if_pos (l10.mpr (by omega))).trans (if_neg (fun z => absurd (l13.mp z) (by omega))))
    rw [er, ub1 (by omega), uw0 c10, rz_rb, if_neg c5, if_neg c10, if_pos c13, rz_bh, if_neg (by omega), rz_wb, if_neg c10]
    by_cases c11 : q.1 = 11
    · rw [ub2 (by omega), or0, if_neg (by omega), eB]
      exact rz_e3 _ (by omega) _ (by omega) i hi
    · rw [ub2t (by omega), if_pos (by omega), eBT]
      exact rz_e3 _ (by omega) _ (by omega) m hm
  by_cases c14 : q.1 = 14
  · have er : rz_rd (Int32.ofNat q.1) (Int32.ofNat q.2.1) (Int32.ofNat q.2.2.1) (Int32.ofNat q.2.2.2) = 0 := by
      unfold rz_rd
      exact (if_pos (l5.mpr (by omega))).trans ((if_pos (l10.mpr (by omega))).trans ((if_pos (l13.mpr (by omega))).trans (if_pos (e14.mpr c14))))
    have eb1 : rz_b1 n f (Int32.ofNat q.1) k = 0 := by unfold rz_b1; exact if_pos (Or.inl (e14.mpr c14))
    rw [er, eb1, ub2t (by omega), zor, uw0 c10, rz_rb, if_neg c5, if_neg c10, if_neg c13, if_neg (by omega), rz_bh, if_pos c14, rz_wb, if_neg c10, eT]
    exact rz_e4 j hj
  · have c15 : q.1 = 15 := by omega
    have er : rz_rd (Int32.ofNat q.1) (Int32.ofNat q.2.1) (Int32.ofNat q.2.2.1) (Int32.ofNat q.2.2.2) = 14 := by
      unfold rz_rd
      exact (if_pos (l5.mpr (by omega))).trans ((if_pos (l10.mpr (by omega))).trans ((if_pos (l13.mpr (by omega))).trans (if_neg (fun z => c14 (e14.mp z)))))
    have eb1 : rz_b1 n f (Int32.ofNat q.1) k = 0 := by unfold rz_b1; exact if_pos (Or.inr (e15.mpr c15))
    rw [er, eb1, ub2 (by omega), uw0 c10, rz_rb, if_neg c5, if_neg c10, if_neg c13, if_pos c15, rz_bh, if_neg c14, if_neg (by omega), rz_wb, if_neg c10, eB]
    exact rz_e5 i hi
theorem z_before_14 {k : Nat} (hk : k ≤ 24) : rz_C xs xl 31 [.ref 14, .int (Int32.ofNat k)] (rz_w v a g) (fun q w' => q = .inl (some (.int (a 6 k))) ∧ w' = rz_w v a g) := by
  refine ev_ps 3 rfl (ev_ald rfl rfl (rz_in (by omega) (by decide)) ?_)
  exact ev_ret rfl rfl ⟨by rw [rz_clamp (by omega)], rfl⟩
theorem z_fill_14 : rz_C xs xl 11 [.ref 15, .int 0] (rz_w v a g) (fun q w' => q = .inl none ∧ ∃ f, w' = rz_w v (rz_ua a 6 f) g ∧ ∀ k, k < 25 → f k = 0) := by
  refine ev_ps 5 rfl (ev_w (w2 := rz_w v (rz_ua a 6 (a 6)) g) rfl ?_)
  refine ev_loop (α := Nat × (Nat → Int32)) (fun r => 25 - r.1) (fun r => r.1 ≤ 25 ∧ ∀ k, k < r.1 → r.2 k = 0) (fun r => [some (.ref 15), some (.int 0), some (.int (Int32.ofNat r.1)), some (.int (Int32.ofNat 25))]) (fun _ => []) (fun r => rz_w v (rz_ua a 6 r.2) g) ?_ (0, a 6) ⟨Nat.zero_le _, fun k hk => absurd hk (Nat.not_lt_zero _)⟩
  rintro ⟨k, f⟩ ⟨hk, hf⟩ ih
  dsimp only at hk hf ih ⊢
  refine ev_ps 2 rfl (ev_ic (cd := .ge) rfl (fun h => ?_) (fun h => ?_))
  · have hkn : 25 ≤ k := rn_ge_t (by omega) (by omega) h
    exact ev_ret rfl rfl ⟨rfl, f, rfl, fun j hj => hf j (by omega)⟩
  · have hk' : k < 25 := rn_ge_f (by omega) (by omega) h
    refine ev_ps 3 rfl (ev_ast rfl rfl (rz_in hk' (by decide)) ?_)
    rw [rz_clamp (k := k) (by omega)]
    have h9 := ih (k + 1, upd f k 0) ⟨by show k + 1 ≤ 25; omega, fun j hj => by
      by_cases hjk : j = k
      · simp [upd, hjk]
      · simp only [upd, hjk, if_false]; exact hf j (by have : j < k + 1 := hj; omega)⟩ (by show 25 - (k + 1) < 25 - k; omega)
    dsimp only at h9
    rw [← rz_succ k] at h9
    exact ev_w (w2 := rz_w v (rz_ua a 6 (upd f k 0)) g) rfl (ev_ps 2 rfl h9)
theorem z_behind_14 {k : Nat} (hv : v 0 = Int32.ofNat n) (hn : n ≤ 24) (hk : k < n) (h14 : a 6 n = 14) (hpc : rz_pc a R n) (hl : rz_lgs R n) : rz_C xs xl 14 [.ref 14, .ref 1, .int (Int32.ofNat k)] (rz_w v a g) (fun q w' => q = .inl (some (.int (rz_bh n (a 6) (R k) k))) ∧ w' = rz_w v a g) := by
  have hq := hl k hk
  have hat : ∀ j, j ≤ n → a 6 j = rz_at n (a 6) j := fun j hj => by
    unfold rz_at
    by_cases h : j < n
    · rw [if_pos h]
    · rw [if_neg h, show j = n by omega]; exact h14
  refine ev_ps 2 rfl (ev_call (av := [_, _]) rfl rfl rfl rfl ⟨Nat.le_of_ble_eq_true rfl, rfl⟩ ⟨Nat.le_of_ble_eq_true rfl, Nat.le_of_ble_eq_true rfl⟩ (y_codeAt (by omega)) ?_)
  rintro _ _ ⟨rfl, rfl⟩
  rw [hpc k hk]
  refine ev_ps 4 rfl (ev_call (av := [_]) rfl rfl rfl rfl ⟨Nat.le_of_ble_eq_true rfl, rfl⟩ ⟨Nat.le_of_ble_eq_true rfl, Nat.le_of_ble_eq_true rfl⟩ (x_t hq) ?_)
  rintro _ _ ⟨rfl, rfl⟩
  refine ev_ps 1 rfl (ev_call (av := [_]) rfl rfl rfl rfl ⟨Nat.le_of_ble_eq_true rfl, rfl⟩ ⟨Nat.le_of_ble_eq_true rfl, Nat.le_of_ble_eq_true rfl⟩ (c_length) ?_)
  rintro _ _ ⟨rfl, rfl⟩
  rw [hv]
  refine ev_min rfl (Nat.le_of_ble_eq_true rfl) ?_
  have emin : ∃ j, j ≤ n ∧ (if Int32.ofNat n < Int32.ofNat (R k).2.2.2 then Int32.ofNat n else Int32.ofNat (R k).2.2.2) = Int32.ofNat j ∧ rz_at n (a 6) j = rz_at n (a 6) (R k).2.2.2 := by
    by_cases h : n < (R k).2.2.2
    · refine ⟨n, Nat.le_refl _, by rw [if_pos ((rz_lt_iff (by omega) (by have := hq.2.2.2.1; omega)).mpr h)], ?_⟩
      unfold rz_at
      rw [if_neg (by omega), if_neg (by omega)]
    · exact ⟨(R k).2.2.2, by omega, by rw [if_neg (fun z => h ((rz_lt_iff (by omega) (by have := hq.2.2.2.1; omega)).mp z))], rfl⟩
  obtain ⟨j, hj, ej, eat⟩ := emin
  rw [ej]
  refine ev_ald rfl rfl (rz_in (by omega) (by decide)) ?_
  rw [rz_clamp (k := j) (by omega), hat j hj, eat]
  refine ev_ps 2 rfl (ev_call (av := [_]) rfl rfl rfl rfl ⟨Nat.le_of_ble_eq_true rfl, rfl⟩ ⟨Nat.le_of_ble_eq_true rfl, Nat.le_of_ble_eq_true rfl⟩ (x_op hq) ?_)
  rintro _ _ ⟨rfl, rfl⟩
  have g1 : rz_C xs xl 14 [.ref 14, .ref 1, .int (Int32.ofNat k)] (rz_w v a g) (fun q w' => True) → True := fun _ => trivial
  have hin1 : ¬ (Int32.ofNat k + Int32.ofInt 1 < 0 ∨ 25 ≤ (Int32.ofNat k + Int32.ofInt 1).toNatClampNeg) := by
    rw [show Int32.ofNat k + Int32.ofInt 1 = Int32.ofNat (k + 1) from rz_succ k]; exact rz_in (by omega) (by decide)
  have ecl : (Int32.ofNat k + Int32.ofInt 1).toNatClampNeg = k + 1 := by
    rw [show Int32.ofNat k + Int32.ofInt 1 = Int32.ofNat (k + 1) from rz_succ k]; exact rz_clamp (by omega)
  have b1 := hq.1
  generalize rz_pk (R k) = code
  unfold rz_bh
  generalize hop : (R k).1 = op at b1 ⊢
  generalize rz_at n (a 6) (R k).2.2.2 = tv
  have dflt : ¬ (op = 12 ∨ op = 13 ∨ op = 14) → rz_E xs xl 14 71 [some (.ref 14), some (.ref 1), some (.int (Int32.ofNat k)), some (.int code), some (.int tv)] [] (rz_w v a g) 0 0 (fun q w' => q = .inl (some (.int (if op = 14 then tv else if op = 12 ∨ op = 13 then rz_at n (a 6) (k + 1) ||| tv else rz_at n (a 6) (k + 1)))) ∧ w' = rz_w v a g) := fun hno => by
    refine ev_ps 5 rfl (ev_ald rfl rfl hin1 ?_)
    rw [ecl, hat (k + 1) (by omega)]
    exact ev_ret rfl rfl ⟨by rw [if_neg (by omega), if_neg (by omega)], rfl⟩
  have mid : (op = 12 ∨ op = 13) → rz_E xs xl 14 59 [some (.ref 14), some (.ref 1), some (.int (Int32.ofNat k)), some (.int code), some (.int tv)] [] (rz_w v a g) 0 0 (fun q w' => q = .inl (some (.int (if op = 14 then tv else if op = 12 ∨ op = 13 then rz_at n (a 6) (k + 1) ||| tv else rz_at n (a 6) (k + 1)))) ∧ w' = rz_w v a g) := fun hyes => by
    refine ev_ps 5 rfl (ev_ald rfl rfl hin1 ?_)
    rw [ecl, hat (k + 1) (by omega)]
    exact ev_ps 2 rfl (ev_ret rfl rfl ⟨by rw [if_neg (by omega), if_pos hyes], rfl⟩)
  rcases (show op = 0 ∨ op = 1 ∨ op = 2 ∨ op = 3 ∨ op = 4 ∨ op = 5 ∨ op = 6 ∨ op = 7 ∨ op = 8 ∨ op = 9 ∨ op = 10 ∨ op = 11 ∨ op = 12 ∨ op = 13 ∨ op = 14 ∨ op = 15 by omega) with rfl | rfl | rfl | rfl | rfl | rfl | rfl | rfl | rfl | rfl | rfl | rfl | rfl | rfl | rfl | rfl
  · exact ev_ps 1 rfl (dflt (by omega))
  · exact ev_ps 1 rfl (dflt (by omega))
  · exact ev_ps 1 rfl (dflt (by omega))
  · exact ev_ps 1 rfl (dflt (by omega))
  · exact ev_ps 1 rfl (dflt (by omega))
  · exact ev_ps 1 rfl (dflt (by omega))
  · exact ev_ps 1 rfl (dflt (by omega))
  · exact ev_ps 1 rfl (dflt (by omega))
  · exact ev_ps 1 rfl (dflt (by omega))
  · exact ev_ps 1 rfl (dflt (by omega))
  · exact ev_ps 1 rfl (dflt (by omega))
  · exact ev_ps 1 rfl (dflt (by omega))
  · exact ev_ps 1 rfl (mid (by omega))
  · exact ev_ps 1 rfl (mid (by omega))
  · exact ev_ps 2 rfl (ev_ret rfl rfl ⟨rfl, rfl⟩)
  · exact ev_ps 1 rfl (dflt (by omega))
theorem z_findMore_14 {φ0 : Nat → Int32} (hv : v 0 = Int32.ofNat n) (hn : n ≤ 24) (h14 : a 6 n = 14) (hpc : rz_pc a R n) (hl : rz_lgs R n) (hf0 : ∀ k, k < n → a 6 k = φ0 k) (hK0 : rz_K (rz_fam R) n φ0) : rz_C xs xl 12 [.ref 14, .ref 1] (rz_w v a g) (fun q w' => ∃ (u : Int32) (f : Nat → Int32), (u = 0 ∨ u = 1) ∧ q = .inl (some (.int u)) ∧ w' = rz_w v (rz_ua a 6 f) g ∧ f n = 14 ∧ (∀ k, k < n → f k = rz_sw (rz_fam R) n n φ0 k) ∧ (u = 0 → rz_sw (rz_fam R) n n φ0 = φ0) ∧ (u = 1 → rz_mz (rz_sw (rz_fam R) n n φ0) n < rz_mz φ0 n)) := by
  have hfl : ∀ p, p < n → rz_li (rz_fam R) p := fun p hp => rz_fam_li (hl p hp)
  refine ev_ps 3 rfl (ev_call (av := [_]) rfl rfl rfl rfl ⟨Nat.le_of_ble_eq_true rfl, rfl⟩ ⟨Nat.le_of_ble_eq_true rfl, Nat.le_of_ble_eq_true rfl⟩ (c_length) ?_)
  rintro _ _ ⟨rfl, rfl⟩
  refine ev_ps 3 rfl (ev_w (w2 := rz_w v (rz_ua a 6 (a 6)) g) rfl ?_)
  refine ev_l (L2 := [some (.ref 14), some (.ref 1), some (.int 0), some (.int (Int32.ofNat n - 1)), none, none, none]) (by rw [← hv]; rfl) ?_
  refine ev_loop (α := Nat × Int32 × Option Value × Option Value × Option Value × (Nat → Int32) × (Nat → Int32)) (fun r => r.1) (fun r => r.1 ≤ n ∧ (r.2.1 = 0 ∨ r.2.1 = 1) ∧ r.2.2.2.2.2.1 n = 14 ∧ (∀ k, k < n → r.2.2.2.2.2.1 k = r.2.2.2.2.2.2 k) ∧ rz_K (rz_fam R) n r.2.2.2.2.2.2 ∧ rz_sw (rz_fam R) n r.1 r.2.2.2.2.2.2 = rz_sw (rz_fam R) n n φ0 ∧ (r.2.1 = 0 → r.2.2.2.2.2.2 = φ0) ∧ rz_mz r.2.2.2.2.2.2 n ≤ rz_mz φ0 n ∧ (r.2.1 = 1 → rz_mz r.2.2.2.2.2.2 n < rz_mz φ0 n)) (fun r => [some (.ref 14), some (.ref 1), some (.int r.2.1), some (.int (Int32.ofNat r.1 - 1)), r.2.2.1, r.2.2.2.1, r.2.2.2.2.1]) (fun _ => []) (fun r => rz_w v (rz_ua a 6 r.2.2.2.2.2.1) g) ?_ (n, 0, none, none, none, a 6, φ0) ⟨Nat.le_refl _, Or.inl rfl, h14, hf0, hK0, rfl, fun _ => rfl, Nat.le_refl _, fun q => absurd (show (0 : Int32) = 1 from q) (by decide)⟩
  rintro ⟨k, c, l4, l5, l6, f, φ⟩ ⟨hk, hc, h14f, hfφ, hKφ, hsw, hc0, hm1, hm2⟩ ih
  dsimp only at hk hc h14f hfφ hKφ hsw hc0 hm1 hm2 ih ⊢
  refine ev_ps 1 rfl (ev_if (cd := .lt) rfl (fun h => ?_) (fun h => ?_))
  · have hk0 : k = 0 := by
      rcases Nat.eq_zero_or_pos k with h0 | h0
      · exact h0
      · exfalso
        have h1 := rc_lt_t h
        rw [show Int32.ofNat k - 1 = Int32.ofNat (k - 1) from rz_sub (n := 1) h0] at h1
        exact absurd ((rz_lt_iff (k := 0) (by omega) (by omega)).mp h1) (by omega)
    subst hk0
    have hsw' : φ = rz_sw (rz_fam R) n n φ0 := hsw
    refine ev_ps 1 rfl (ev_ret rfl (show (if c = 0 ∨ c = 1 then some (some (Value.int c)) else none) = _ from if_pos hc) ⟨c, f, hc, rfl, rfl, h14f, fun i hi => (hfφ i hi).trans (congrFun hsw' i), fun q => hsw'.symm.trans (hc0 q), fun q => by rw [← hsw']; exact hm2 q⟩)
  · have hk0 : 0 < k := by
      rcases Nat.eq_zero_or_pos k with rfl | h0
      · exact absurd (by decide : Int32.ofNat 0 - 1 < 0) (rc_lt_f h)
      · exact h0
    rw [show Int32.ofNat k - 1 = Int32.ofNat (k - 1) from rz_sub (n := 1) hk0]
    have hq := hl (k - 1) (by omega)
    have hin : ¬ (Int32.ofNat (k - 1) < 0 ∨ 25 ≤ (Int32.ofNat (k - 1)).toNatClampNeg) := rz_in (by omega) (by decide)
    have e := rz_clamp (k := k - 1) (by omega)
    have hsb : ∀ p, p < n → rz_sb (f p) 14 := fun p hp => by rw [hfφ p hp]; exact hKφ.1 p hp
    have hlive := rz_live_eq (R := R) (n := n) (f := f) (k := k - 1) hq hsb
    have hF : rz_Fp (rz_fam R) n f (k - 1) = rz_Fp (rz_fam R) n φ (k - 1) := rz_Fp_cg hfφ
    refine ev_ps 2 rfl (ev_call (av := [_, _]) rfl rfl rfl rfl ⟨Nat.le_of_ble_eq_true rfl, rfl⟩ ⟨Nat.le_of_ble_eq_true rfl, Nat.le_of_ble_eq_true rfl⟩ (y_codeAt (by omega)) ?_)
    rintro _ _ ⟨rfl, rfl⟩
    rw [show rz_ua a 6 f 0 (k - 1) = rz_pk (R (k - 1)) from hpc (k - 1) (by omega)]
    refine ev_ps 4 rfl (ev_call (av := [_, _, _]) rfl rfl rfl rfl ⟨Nat.le_of_ble_eq_true rfl, rfl⟩ ⟨Nat.le_of_ble_eq_true rfl, Nat.le_of_ble_eq_true rfl⟩ (z_behind_14 (a := rz_ua a 6 f) (R := R) hv hn (by omega) h14f hpc hl) ?_)
    rintro _ _ ⟨rfl, rfl⟩
    refine ev_ps 1 rfl (ev_call (av := [_]) rfl rfl rfl rfl ⟨Nat.le_of_ble_eq_true rfl, rfl⟩ ⟨Nat.le_of_ble_eq_true rfl, Nat.le_of_ble_eq_true rfl⟩ (x_writtenBy hq) ?_)
    rintro _ _ ⟨rfl, rfl⟩
    refine ev_ps 5 rfl (ev_call (av := [_]) rfl rfl rfl rfl ⟨Nat.le_of_ble_eq_true rfl, rfl⟩ ⟨Nat.le_of_ble_eq_true rfl, Nat.le_of_ble_eq_true rfl⟩ (x_readBy hq) ?_)
    rintro _ _ ⟨rfl, rfl⟩
    refine ev_ps 5 rfl ?_
    refine ev_l (L2 := [some (.ref 14), some (.ref 1), some (.int c), some (.int (Int32.ofNat (k - 1))), some (.int (rz_pk (R (k - 1)))), some (.int (rz_bh n f (R (k - 1)) (k - 1) &&& (rz_wb (R (k - 1)) ^^^ Int32.ofInt (-1)))), some (.int (rz_Fp (rz_fam R) n φ (k - 1)))]) (by rw [← hF, ← hlive]; rfl) ?_
    obtain ⟨j1, j2, j3⟩ := rz_K_step hKφ (show k - 1 < n by omega) (hfl (k - 1) (by omega))
    have next : ∀ (d : Int32) (f2 φ2 : Nat → Int32), (d = 0 ∨ d = 1) → f2 n = 14 → (∀ i, i < n → f2 i = φ2 i) → φ2 = upd φ (k - 1) (rz_Fp (rz_fam R) n φ (k - 1)) → (d = 0 → φ2 = φ0) → (d = 1 → rz_mz φ2 n < rz_mz φ0 n) → ∀ l4 l5 l6, rz_E xs xl 12 70 [some (.ref 14), some (.ref 1), some (.int d), some (.int (Int32.ofNat (k - 1))), l4, l5, l6] [] (rz_w v (rz_ua a 6 f2) g) 0 0 (fun q w' => ∃ (u : Int32) (f : Nat → Int32), (u = 0 ∨ u = 1) ∧ q = .inl (some (.int u)) ∧ w' = rz_w v (rz_ua a 6 f) g ∧ f n = 14 ∧ (∀ k, k < n → f k = rz_sw (rz_fam R) n n φ0 k) ∧ (u = 0 → rz_sw (rz_fam R) n n φ0 = φ0) ∧ (u = 1 → rz_mz (rz_sw (rz_fam R) n n φ0) n < rz_mz φ0 n)) := by
      intro d f2 φ2 hd h1 h2 h3 h4 h5 l4 l5 l6
      subst h3
      have h9 := ih (k - 1, d, l4, l5, l6, f2, upd φ (k - 1) (rz_Fp (rz_fam R) n φ (k - 1))) ⟨by show k - 1 ≤ n; omega, hd, h1, h2, j1, by
        rw [show k = (k - 1) + 1 by omega] at hsw
        exact hsw, h4, Nat.le_trans j2 hm1, h5⟩ (by show k - 1 < k; omega)
      dsimp only at h9
      rw [show Int32.ofNat (k - 1) - 1 = Int32.ofNat (k - 1) + Int32.ofInt (-1) from Int32.sub_eq_add_neg _ _] at h9
      exact ev_ps 2 rfl h9
    refine ev_ps 4 rfl (ev_ald rfl rfl hin ?_)
    rw [e, show rz_ua a 6 f 6 (k - 1) = φ (k - 1) from hfφ (k - 1) (by omega)]
    refine ev_ic (cd := .eq) rfl (fun h1 => ?_) (fun h1 => ?_)
    · have heq := rc_eq_t h1
      have es := rz_upd_self heq
      exact next c f φ hc h14f hfφ es.symm hc0 hm2 _ _ _
    · refine ev_ps 4 rfl (ev_ast rfl rfl hin ?_)
      rw [e]
      refine ev_w (w2 := rz_w v (rz_ua a 6 (upd f (k - 1) (rz_Fp (rz_fam R) n φ (k - 1)))) g) rfl ?_
      refine ev_ps 2 rfl (next 1 _ _ (Or.inr rfl) ?_ (fun i hi => ?_) rfl (fun q => absurd q (by decide)) (fun _ => Nat.lt_of_lt_of_le (j3 (rc_eq_f h1)) hm1) _ _ _)
      · simp only [upd]
        rw [if_neg (by omega)]; exact h14f
      · by_cases hik : i = k - 1
        · simp [upd, hik]
        · simp only [upd, hik, if_false]; exact hfφ i hi
theorem z_findFor_14 (hv : v 0 = Int32.ofNat n) (hn : n ≤ 24) (hpc : rz_pc a R n) (hl : rz_lgs R n) : rz_C xs xl 10 [.ref 14, .ref 1] (rz_w v a g) (fun q w' => q = .inl none ∧ ∃ f, w' = rz_w v (rz_ua a 6 f) g ∧ ∀ k, k ≤ n → f k = rz_S R n k) := by
  have hfl : ∀ p, p < n → rz_li (rz_fam R) p := fun p hp => rz_fam_li (hl p hp)
  refine ev_ps 3 rfl (ev_call (av := [_, _]) rfl rfl rfl rfl ⟨Nat.le_of_ble_eq_true rfl, rfl⟩ ⟨Nat.le_of_ble_eq_true rfl, Nat.le_of_ble_eq_true rfl⟩ (z_fill_14) ?_)
  rintro _ _ ⟨rfl, f0, rfl, hf0⟩
  refine ev_ps 3 rfl (ev_call (av := [_]) rfl rfl rfl rfl ⟨Nat.le_of_ble_eq_true rfl, rfl⟩ ⟨Nat.le_of_ble_eq_true rfl, Nat.le_of_ble_eq_true rfl⟩ (c_length) ?_)
  rintro _ _ ⟨rfl, rfl⟩
  rw [hv]
  refine ev_ps 1 rfl (ev_ast rfl rfl (rz_in (by omega) (by decide)) ?_)
  rw [rz_clamp (k := n) (by omega)]
  refine ev_w (w2 := rz_w v (rz_ua a 6 (upd f0 n 14)) g) rfl ?_
  refine ev_ps 4 rfl ?_
  refine ev_loop (α := Nat × Int32 × (Nat → Int32)) (fun r => 73 - r.1) (fun r => r.1 ≤ 73 ∧ (r.2.1 = 0 ∨ r.2.1 = 1) ∧ r.2.2 n = 14 ∧ (∀ k, k < n → r.2.2 k = rz_it (rz_fam R) n r.1 k) ∧ (r.2.1 = 0 → rz_sw (rz_fam R) n n (rz_it (rz_fam R) n r.1) = rz_it (rz_fam R) n r.1) ∧ (r.2.1 = 1 → rz_mz (rz_it (rz_fam R) n r.1) n + r.1 ≤ 3 * n)) (fun r => [some (.ref 14), some (.ref 1), some (.int r.2.1), some (.int (Int32.ofNat r.1))]) (fun _ => []) (fun r => rz_w v (rz_ua a 6 r.2.2) g) ?_ (0, 1, upd f0 n 14) ⟨Nat.zero_le _, Or.inr rfl, by simp [upd], fun k hk => by
    have : upd f0 n 14 k = f0 k := by simp only [upd]; rw [if_neg (by omega)]
    exact this.trans (hf0 k (by omega)), fun q => absurd (show (1 : Int32) = 0 from q) (by decide), fun _ => by show rz_mz (fun _ => 0) n + 0 ≤ 3 * n; rw [rz_mz_0]; omega⟩
  rintro ⟨j, c, f⟩ ⟨hj, hc, h14, hf, hst, hms⟩ ih
  dsimp only at hj hc h14 hf hst hms ih ⊢
  have done : rz_sw (rz_fam R) n n (rz_it (rz_fam R) n j) = rz_it (rz_fam R) n j → ∀ k, k ≤ n → f k = rz_S R n k := fun hs k hk => by
    unfold rz_S rz_at
    by_cases h : k < n
    · rw [if_pos h, hf k h, rz_it_eq hfl hn hs]; rfl
    · rw [if_neg h, show k = n by omega]; exact h14
  refine ev_ps 1 rfl (ev_if (cd := .eq) rfl (fun h => ?_) (fun h => ?_))
  · exact ev_ret rfl rfl ⟨rfl, f, rfl, done (hst (rc_eq_t h))⟩
  · have hc1 : c = 1 := hc.resolve_left (rc_eq_f h)
    have hlt := hms hc1
    refine ev_ps 2 rfl (ev_ic (cd := .ge) rfl (fun h1 => ?_) (fun h1 => ?_))
    · have := rn_ge_t (k := 73) (by omega) (by omega) h1
      omega
    · have hj' : j < 73 := rn_ge_f (k := 73) (by omega) (by omega) h1
      refine ev_ps 2 rfl (ev_call (av := [_, _]) rfl rfl rfl rfl ⟨Nat.le_of_ble_eq_true rfl, rfl⟩ ⟨Nat.le_of_ble_eq_true rfl, Nat.le_of_ble_eq_true rfl⟩ (z_findMore_14 (a := rz_ua a 6 f) (R := R) (φ0 := rz_it (rz_fam R) n j) hv hn h14 hpc hl hf (rz_it_K hfl j)) ?_)
      rintro _ _ ⟨u, f2, hu, rfl, rfl, h142, hf2, hu0, hu1⟩
      have h9 := ih (j + 1, u, f2) ⟨by show j + 1 ≤ 73; omega, hu, h142, hf2, fun q => by
        have e2 := hu0 q
        show rz_sw (rz_fam R) n n (rz_sw (rz_fam R) n n (rz_it (rz_fam R) n j)) = rz_sw (rz_fam R) n n (rz_it (rz_fam R) n j)
        rw [e2, e2], fun q => by
        have := hu1 q
        show rz_mz (rz_sw (rz_fam R) n n (rz_it (rz_fam R) n j)) n + (j + 1) ≤ 3 * n
        omega⟩ (by show 73 - (j + 1) < 73 - j; omega)
      dsimp only at h9
      rw [← rz_succ j] at h9
      exact ev_w (w2 := rz_w v (rz_ua a 6 f2) g) rfl (ev_ps 3 rfl h9)
theorem z_before_6 {k : Nat} (hk : k ≤ 24) : rz_C xs xl 31 [.ref 6, .int (Int32.ofNat k)] (rz_w v a g) (fun q w' => q = .inl (some (.int (a 3 k))) ∧ w' = rz_w v a g) := by
  refine ev_ps 3 rfl (ev_ald rfl rfl (rz_in (by omega) (by decide)) ?_)
  exact ev_ret rfl rfl ⟨by rw [rz_clamp (by omega)], rfl⟩
theorem z_fill_6 : rz_C xs xl 11 [.ref 7, .int 0] (rz_w v a g) (fun q w' => q = .inl none ∧ ∃ f, w' = rz_w v (rz_ua a 3 f) g ∧ ∀ k, k < 25 → f k = 0) := by
  refine ev_ps 5 rfl (ev_w (w2 := rz_w v (rz_ua a 3 (a 3)) g) rfl ?_)
  refine ev_loop (α := Nat × (Nat → Int32)) (fun r => 25 - r.1) (fun r => r.1 ≤ 25 ∧ ∀ k, k < r.1 → r.2 k = 0) (fun r => [some (.ref 7), some (.int 0), some (.int (Int32.ofNat r.1)), some (.int (Int32.ofNat 25))]) (fun _ => []) (fun r => rz_w v (rz_ua a 3 r.2) g) ?_ (0, a 3) ⟨Nat.zero_le _, fun k hk => absurd hk (Nat.not_lt_zero _)⟩
  rintro ⟨k, f⟩ ⟨hk, hf⟩ ih
  dsimp only at hk hf ih ⊢
  refine ev_ps 2 rfl (ev_ic (cd := .ge) rfl (fun h => ?_) (fun h => ?_))
  · have hkn : 25 ≤ k := rn_ge_t (by omega) (by omega) h
    exact ev_ret rfl rfl ⟨rfl, f, rfl, fun j hj => hf j (by omega)⟩
  · have hk' : k < 25 := rn_ge_f (by omega) (by omega) h
    refine ev_ps 3 rfl (ev_ast rfl rfl (rz_in hk' (by decide)) ?_)
    rw [rz_clamp (k := k) (by omega)]
    have h9 := ih (k + 1, upd f k 0) ⟨by show k + 1 ≤ 25; omega, fun j hj => by
      by_cases hjk : j = k
      · simp [upd, hjk]
      · simp only [upd, hjk, if_false]; exact hf j (by have : j < k + 1 := hj; omega)⟩ (by show 25 - (k + 1) < 25 - k; omega)
    dsimp only at h9
    rw [← rz_succ k] at h9
    exact ev_w (w2 := rz_w v (rz_ua a 3 (upd f k 0)) g) rfl (ev_ps 2 rfl h9)
theorem z_behind_6 {k : Nat} (hv : v 0 = Int32.ofNat n) (hn : n ≤ 24) (hk : k < n) (h14 : a 3 n = 14) (hpc : rz_pc a R n) (hl : rz_lgs R n) : rz_C xs xl 14 [.ref 6, .ref 1, .int (Int32.ofNat k)] (rz_w v a g) (fun q w' => q = .inl (some (.int (rz_bh n (a 3) (R k) k))) ∧ w' = rz_w v a g) := by
  have hq := hl k hk
  have hat : ∀ j, j ≤ n → a 3 j = rz_at n (a 3) j := fun j hj => by
    unfold rz_at
    by_cases h : j < n
    · rw [if_pos h]
    · rw [if_neg h, show j = n by omega]; exact h14
  refine ev_ps 2 rfl (ev_call (av := [_, _]) rfl rfl rfl rfl ⟨Nat.le_of_ble_eq_true rfl, rfl⟩ ⟨Nat.le_of_ble_eq_true rfl, Nat.le_of_ble_eq_true rfl⟩ (y_codeAt (by omega)) ?_)
  rintro _ _ ⟨rfl, rfl⟩
  rw [hpc k hk]
  refine ev_ps 4 rfl (ev_call (av := [_]) rfl rfl rfl rfl ⟨Nat.le_of_ble_eq_true rfl, rfl⟩ ⟨Nat.le_of_ble_eq_true rfl, Nat.le_of_ble_eq_true rfl⟩ (x_t hq) ?_)
  rintro _ _ ⟨rfl, rfl⟩
  refine ev_ps 1 rfl (ev_call (av := [_]) rfl rfl rfl rfl ⟨Nat.le_of_ble_eq_true rfl, rfl⟩ ⟨Nat.le_of_ble_eq_true rfl, Nat.le_of_ble_eq_true rfl⟩ (c_length) ?_)
  rintro _ _ ⟨rfl, rfl⟩
  rw [hv]
  refine ev_min rfl (Nat.le_of_ble_eq_true rfl) ?_
  have emin : ∃ j, j ≤ n ∧ (if Int32.ofNat n < Int32.ofNat (R k).2.2.2 then Int32.ofNat n else Int32.ofNat (R k).2.2.2) = Int32.ofNat j ∧ rz_at n (a 3) j = rz_at n (a 3) (R k).2.2.2 := by
    by_cases h : n < (R k).2.2.2
    · refine ⟨n, Nat.le_refl _, by rw [if_pos ((rz_lt_iff (by omega) (by have := hq.2.2.2.1; omega)).mpr h)], ?_⟩
      unfold rz_at
      rw [if_neg (by omega), if_neg (by omega)]
    · exact ⟨(R k).2.2.2, by omega, by rw [if_neg (fun z => h ((rz_lt_iff (by omega) (by have := hq.2.2.2.1; omega)).mp z))], rfl⟩
  obtain ⟨j, hj, ej, eat⟩ := emin
  rw [ej]
  refine ev_ald rfl rfl (rz_in (by omega) (by decide)) ?_
  rw [rz_clamp (k := j) (by omega), hat j hj, eat]
  refine ev_ps 2 rfl (ev_call (av := [_]) rfl rfl rfl rfl ⟨Nat.le_of_ble_eq_true rfl, rfl⟩ ⟨Nat.le_of_ble_eq_true rfl, Nat.le_of_ble_eq_true rfl⟩ (x_op hq) ?_)
  rintro _ _ ⟨rfl, rfl⟩
  have g1 : rz_C xs xl 14 [.ref 6, .ref 1, .int (Int32.ofNat k)] (rz_w v a g) (fun q w' => True) → True := fun _ => trivial
  have hin1 : ¬ (Int32.ofNat k + Int32.ofInt 1 < 0 ∨ 25 ≤ (Int32.ofNat k + Int32.ofInt 1).toNatClampNeg) := by
    rw [show Int32.ofNat k + Int32.ofInt 1 = Int32.ofNat (k + 1) from rz_succ k]; exact rz_in (by omega) (by decide)
  have ecl : (Int32.ofNat k + Int32.ofInt 1).toNatClampNeg = k + 1 := by
    rw [show Int32.ofNat k + Int32.ofInt 1 = Int32.ofNat (k + 1) from rz_succ k]; exact rz_clamp (by omega)
  have b1 := hq.1
  generalize rz_pk (R k) = code
  unfold rz_bh
  generalize hop : (R k).1 = op at b1 ⊢
  generalize rz_at n (a 3) (R k).2.2.2 = tv
  have dflt : ¬ (op = 12 ∨ op = 13 ∨ op = 14) → rz_E xs xl 14 71 [some (.ref 6), some (.ref 1), some (.int (Int32.ofNat k)), some (.int code), some (.int tv)] [] (rz_w v a g) 0 0 (fun q w' => q = .inl (some (.int (if op = 14 then tv else if op = 12 ∨ op = 13 then rz_at n (a 3) (k + 1) ||| tv else rz_at n (a 3) (k + 1)))) ∧ w' = rz_w v a g) := fun hno => by
    refine ev_ps 5 rfl (ev_ald rfl rfl hin1 ?_)
    rw [ecl, hat (k + 1) (by omega)]
    exact ev_ret rfl rfl ⟨by rw [if_neg (by omega), if_neg (by omega)], rfl⟩
  have mid : (op = 12 ∨ op = 13) → rz_E xs xl 14 59 [some (.ref 6), some (.ref 1), some (.int (Int32.ofNat k)), some (.int code), some (.int tv)] [] (rz_w v a g) 0 0 (fun q w' => q = .inl (some (.int (if op = 14 then tv else if op = 12 ∨ op = 13 then rz_at n (a 3) (k + 1) ||| tv else rz_at n (a 3) (k + 1)))) ∧ w' = rz_w v a g) := fun hyes => by
    refine ev_ps 5 rfl (ev_ald rfl rfl hin1 ?_)
    rw [ecl, hat (k + 1) (by omega)]
    exact ev_ps 2 rfl (ev_ret rfl rfl ⟨by rw [if_neg (by omega), if_pos hyes], rfl⟩)
  rcases (show op = 0 ∨ op = 1 ∨ op = 2 ∨ op = 3 ∨ op = 4 ∨ op = 5 ∨ op = 6 ∨ op = 7 ∨ op = 8 ∨ op = 9 ∨ op = 10 ∨ op = 11 ∨ op = 12 ∨ op = 13 ∨ op = 14 ∨ op = 15 by omega) with rfl | rfl | rfl | rfl | rfl | rfl | rfl | rfl | rfl | rfl | rfl | rfl | rfl | rfl | rfl | rfl
  · exact ev_ps 1 rfl (dflt (by omega))
  · exact ev_ps 1 rfl (dflt (by omega))
  · exact ev_ps 1 rfl (dflt (by omega))
  · exact ev_ps 1 rfl (dflt (by omega))
  · exact ev_ps 1 rfl (dflt (by omega))
  · exact ev_ps 1 rfl (dflt (by omega))
  · exact ev_ps 1 rfl (dflt (by omega))
  · exact ev_ps 1 rfl (dflt (by omega))
  · exact ev_ps 1 rfl (dflt (by omega))
  · exact ev_ps 1 rfl (dflt (by omega))
  · exact ev_ps 1 rfl (dflt (by omega))
  · exact ev_ps 1 rfl (dflt (by omega))
  · exact ev_ps 1 rfl (mid (by omega))
  · exact ev_ps 1 rfl (mid (by omega))
  · exact ev_ps 2 rfl (ev_ret rfl rfl ⟨rfl, rfl⟩)
  · exact ev_ps 1 rfl (dflt (by omega))
theorem z_findMore_6 {φ0 : Nat → Int32} (hv : v 0 = Int32.ofNat n) (hn : n ≤ 24) (h14 : a 3 n = 14) (hpc : rz_pc a R n) (hl : rz_lgs R n) (hf0 : ∀ k, k < n → a 3 k = φ0 k) (hK0 : rz_K (rz_fam R) n φ0) : rz_C xs xl 12 [.ref 6, .ref 1] (rz_w v a g) (fun q w' => ∃ (u : Int32) (f : Nat → Int32), (u = 0 ∨ u = 1) ∧ q = .inl (some (.int u)) ∧ w' = rz_w v (rz_ua a 3 f) g ∧ f n = 14 ∧ (∀ k, k < n → f k = rz_sw (rz_fam R) n n φ0 k) ∧ (u = 0 → rz_sw (rz_fam R) n n φ0 = φ0) ∧ (u = 1 → rz_mz (rz_sw (rz_fam R) n n φ0) n < rz_mz φ0 n)) := by
  have hfl : ∀ p, p < n → rz_li (rz_fam R) p := fun p hp => rz_fam_li (hl p hp)
  refine ev_ps 3 rfl (ev_call (av := [_]) rfl rfl rfl rfl ⟨Nat.le_of_ble_eq_true rfl, rfl⟩ ⟨Nat.le_of_ble_eq_true rfl, Nat.le_of_ble_eq_true rfl⟩ (c_length) ?_)
  rintro _ _ ⟨rfl, rfl⟩
  refine ev_ps 3 rfl (ev_w (w2 := rz_w v (rz_ua a 3 (a 3)) g) rfl ?_)
  refine ev_l (L2 := [some (.ref 6), some (.ref 1), some (.int 0), some (.int (Int32.ofNat n - 1)), none, none, none]) (by rw [← hv]; rfl) ?_
  refine ev_loop (α := Nat × Int32 × Option Value × Option Value × Option Value × (Nat → Int32) × (Nat → Int32)) (fun r => r.1) (fun r => r.1 ≤ n ∧ (r.2.1 = 0 ∨ r.2.1 = 1) ∧ r.2.2.2.2.2.1 n = 14 ∧ (∀ k, k < n → r.2.2.2.2.2.1 k = r.2.2.2.2.2.2 k) ∧ rz_K (rz_fam R) n r.2.2.2.2.2.2 ∧ rz_sw (rz_fam R) n r.1 r.2.2.2.2.2.2 = rz_sw (rz_fam R) n n φ0 ∧ (r.2.1 = 0 → r.2.2.2.2.2.2 = φ0) ∧ rz_mz r.2.2.2.2.2.2 n ≤ rz_mz φ0 n ∧ (r.2.1 = 1 → rz_mz r.2.2.2.2.2.2 n < rz_mz φ0 n)) (fun r => [some (.ref 6), some (.ref 1), some (.int r.2.1), some (.int (Int32.ofNat r.1 - 1)), r.2.2.1, r.2.2.2.1, r.2.2.2.2.1]) (fun _ => []) (fun r => rz_w v (rz_ua a 3 r.2.2.2.2.2.1) g) ?_ (n, 0, none, none, none, a 3, φ0) ⟨Nat.le_refl _, Or.inl rfl, h14, hf0, hK0, rfl, fun _ => rfl, Nat.le_refl _, fun q => absurd (show (0 : Int32) = 1 from q) (by decide)⟩
  rintro ⟨k, c, l4, l5, l6, f, φ⟩ ⟨hk, hc, h14f, hfφ, hKφ, hsw, hc0, hm1, hm2⟩ ih
  dsimp only at hk hc h14f hfφ hKφ hsw hc0 hm1 hm2 ih ⊢
  refine ev_ps 1 rfl (ev_if (cd := .lt) rfl (fun h => ?_) (fun h => ?_))
  · have hk0 : k = 0 := by
      rcases Nat.eq_zero_or_pos k with h0 | h0
      · exact h0
      · exfalso
        have h1 := rc_lt_t h
        rw [show Int32.ofNat k - 1 = Int32.ofNat (k - 1) from rz_sub (n := 1) h0] at h1
        exact absurd ((rz_lt_iff (k := 0) (by omega) (by omega)).mp h1) (by omega)
    subst hk0
    have hsw' : φ = rz_sw (rz_fam R) n n φ0 := hsw
    refine ev_ps 1 rfl (ev_ret rfl (show (if c = 0 ∨ c = 1 then some (some (Value.int c)) else none) = _ from if_pos hc) ⟨c, f, hc, rfl, rfl, h14f, fun i hi => (hfφ i hi).trans (congrFun hsw' i), fun q => hsw'.symm.trans (hc0 q), fun q => by rw [← hsw']; exact hm2 q⟩)
  · have hk0 : 0 < k := by
      rcases Nat.eq_zero_or_pos k with rfl | h0
      · exact absurd (by decide : Int32.ofNat 0 - 1 < 0) (rc_lt_f h)
      · exact h0
    rw [show Int32.ofNat k - 1 = Int32.ofNat (k - 1) from rz_sub (n := 1) hk0]
    have hq := hl (k - 1) (by omega)
    have hin : ¬ (Int32.ofNat (k - 1) < 0 ∨ 25 ≤ (Int32.ofNat (k - 1)).toNatClampNeg) := rz_in (by omega) (by decide)
    have e := rz_clamp (k := k - 1) (by omega)
    have hsb : ∀ p, p < n → rz_sb (f p) 14 := fun p hp => by rw [hfφ p hp]; exact hKφ.1 p hp
    have hlive := rz_live_eq (R := R) (n := n) (f := f) (k := k - 1) hq hsb
    have hF : rz_Fp (rz_fam R) n f (k - 1) = rz_Fp (rz_fam R) n φ (k - 1) := rz_Fp_cg hfφ
    refine ev_ps 2 rfl (ev_call (av := [_, _]) rfl rfl rfl rfl ⟨Nat.le_of_ble_eq_true rfl, rfl⟩ ⟨Nat.le_of_ble_eq_true rfl, Nat.le_of_ble_eq_true rfl⟩ (y_codeAt (by omega)) ?_)
    rintro _ _ ⟨rfl, rfl⟩
    rw [show rz_ua a 3 f 0 (k - 1) = rz_pk (R (k - 1)) from hpc (k - 1) (by omega)]
    refine ev_ps 4 rfl (ev_call (av := [_, _, _]) rfl rfl rfl rfl ⟨Nat.le_of_ble_eq_true rfl, rfl⟩ ⟨Nat.le_of_ble_eq_true rfl, Nat.le_of_ble_eq_true rfl⟩ (z_behind_6 (a := rz_ua a 3 f) (R := R) hv hn (by omega) h14f hpc hl) ?_)
    rintro _ _ ⟨rfl, rfl⟩
    refine ev_ps 1 rfl (ev_call (av := [_]) rfl rfl rfl rfl ⟨Nat.le_of_ble_eq_true rfl, rfl⟩ ⟨Nat.le_of_ble_eq_true rfl, Nat.le_of_ble_eq_true rfl⟩ (x_writtenBy hq) ?_)
    rintro _ _ ⟨rfl, rfl⟩
    refine ev_ps 5 rfl (ev_call (av := [_]) rfl rfl rfl rfl ⟨Nat.le_of_ble_eq_true rfl, rfl⟩ ⟨Nat.le_of_ble_eq_true rfl, Nat.le_of_ble_eq_true rfl⟩ (x_readBy hq) ?_)
    rintro _ _ ⟨rfl, rfl⟩
    refine ev_ps 5 rfl ?_
    refine ev_l (L2 := [some (.ref 6), some (.ref 1), some (.int c), some (.int (Int32.ofNat (k - 1))), some (.int (rz_pk (R (k - 1)))), some (.int (rz_bh n f (R (k - 1)) (k - 1) &&& (rz_wb (R (k - 1)) ^^^ Int32.ofInt (-1)))), some (.int (rz_Fp (rz_fam R) n φ (k - 1)))]) (by rw [← hF, ← hlive]; rfl) ?_
    obtain ⟨j1, j2, j3⟩ := rz_K_step hKφ (show k - 1 < n by omega) (hfl (k - 1) (by omega))
    have next : ∀ (d : Int32) (f2 φ2 : Nat → Int32), (d = 0 ∨ d = 1) → f2 n = 14 → (∀ i, i < n → f2 i = φ2 i) → φ2 = upd φ (k - 1) (rz_Fp (rz_fam R) n φ (k - 1)) → (d = 0 → φ2 = φ0) → (d = 1 → rz_mz φ2 n < rz_mz φ0 n) → ∀ l4 l5 l6, rz_E xs xl 12 70 [some (.ref 6), some (.ref 1), some (.int d), some (.int (Int32.ofNat (k - 1))), l4, l5, l6] [] (rz_w v (rz_ua a 3 f2) g) 0 0 (fun q w' => ∃ (u : Int32) (f : Nat → Int32), (u = 0 ∨ u = 1) ∧ q = .inl (some (.int u)) ∧ w' = rz_w v (rz_ua a 3 f) g ∧ f n = 14 ∧ (∀ k, k < n → f k = rz_sw (rz_fam R) n n φ0 k) ∧ (u = 0 → rz_sw (rz_fam R) n n φ0 = φ0) ∧ (u = 1 → rz_mz (rz_sw (rz_fam R) n n φ0) n < rz_mz φ0 n)) := by
      intro d f2 φ2 hd h1 h2 h3 h4 h5 l4 l5 l6
      subst h3
      have h9 := ih (k - 1, d, l4, l5, l6, f2, upd φ (k - 1) (rz_Fp (rz_fam R) n φ (k - 1))) ⟨by show k - 1 ≤ n; omega, hd, h1, h2, j1, by
        rw [show k = (k - 1) + 1 by omega] at hsw
        exact hsw, h4, Nat.le_trans j2 hm1, h5⟩ (by show k - 1 < k; omega)
      dsimp only at h9
      rw [show Int32.ofNat (k - 1) - 1 = Int32.ofNat (k - 1) + Int32.ofInt (-1) from Int32.sub_eq_add_neg _ _] at h9
      exact ev_ps 2 rfl h9
    refine ev_ps 4 rfl (ev_ald rfl rfl hin ?_)
    rw [e, show rz_ua a 3 f 3 (k - 1) = φ (k - 1) from hfφ (k - 1) (by omega)]
    refine ev_ic (cd := .eq) rfl (fun h1 => ?_) (fun h1 => ?_)
    · have heq := rc_eq_t h1
      have es := rz_upd_self heq
      exact next c f φ hc h14f hfφ es.symm hc0 hm2 _ _ _
    · refine ev_ps 4 rfl (ev_ast rfl rfl hin ?_)
      rw [e]
      refine ev_w (w2 := rz_w v (rz_ua a 3 (upd f (k - 1) (rz_Fp (rz_fam R) n φ (k - 1)))) g) rfl ?_
      refine ev_ps 2 rfl (next 1 _ _ (Or.inr rfl) ?_ (fun i hi => ?_) rfl (fun q => absurd q (by decide)) (fun _ => Nat.lt_of_lt_of_le (j3 (rc_eq_f h1)) hm1) _ _ _)
      · simp only [upd]
        rw [if_neg (by omega)]; exact h14f
      · by_cases hik : i = k - 1
        · simp [upd, hik]
        · simp only [upd, hik, if_false]; exact hfφ i hi
theorem z_findFor_6 (hv : v 0 = Int32.ofNat n) (hn : n ≤ 24) (hpc : rz_pc a R n) (hl : rz_lgs R n) : rz_C xs xl 10 [.ref 6, .ref 1] (rz_w v a g) (fun q w' => q = .inl none ∧ ∃ f, w' = rz_w v (rz_ua a 3 f) g ∧ ∀ k, k ≤ n → f k = rz_S R n k) := by
  have hfl : ∀ p, p < n → rz_li (rz_fam R) p := fun p hp => rz_fam_li (hl p hp)
  refine ev_ps 3 rfl (ev_call (av := [_, _]) rfl rfl rfl rfl ⟨Nat.le_of_ble_eq_true rfl, rfl⟩ ⟨Nat.le_of_ble_eq_true rfl, Nat.le_of_ble_eq_true rfl⟩ (z_fill_6) ?_)
  rintro _ _ ⟨rfl, f0, rfl, hf0⟩
  refine ev_ps 3 rfl (ev_call (av := [_]) rfl rfl rfl rfl ⟨Nat.le_of_ble_eq_true rfl, rfl⟩ ⟨Nat.le_of_ble_eq_true rfl, Nat.le_of_ble_eq_true rfl⟩ (c_length) ?_)
  rintro _ _ ⟨rfl, rfl⟩
  rw [hv]
  refine ev_ps 1 rfl (ev_ast rfl rfl (rz_in (by omega) (by decide)) ?_)
  rw [rz_clamp (k := n) (by omega)]
  refine ev_w (w2 := rz_w v (rz_ua a 3 (upd f0 n 14)) g) rfl ?_
  refine ev_ps 4 rfl ?_
  refine ev_loop (α := Nat × Int32 × (Nat → Int32)) (fun r => 73 - r.1) (fun r => r.1 ≤ 73 ∧ (r.2.1 = 0 ∨ r.2.1 = 1) ∧ r.2.2 n = 14 ∧ (∀ k, k < n → r.2.2 k = rz_it (rz_fam R) n r.1 k) ∧ (r.2.1 = 0 → rz_sw (rz_fam R) n n (rz_it (rz_fam R) n r.1) = rz_it (rz_fam R) n r.1) ∧ (r.2.1 = 1 → rz_mz (rz_it (rz_fam R) n r.1) n + r.1 ≤ 3 * n)) (fun r => [some (.ref 6), some (.ref 1), some (.int r.2.1), some (.int (Int32.ofNat r.1))]) (fun _ => []) (fun r => rz_w v (rz_ua a 3 r.2.2) g) ?_ (0, 1, upd f0 n 14) ⟨Nat.zero_le _, Or.inr rfl, by simp [upd], fun k hk => by
    have : upd f0 n 14 k = f0 k := by simp only [upd]; rw [if_neg (by omega)]
    exact this.trans (hf0 k (by omega)), fun q => absurd (show (1 : Int32) = 0 from q) (by decide), fun _ => by show rz_mz (fun _ => 0) n + 0 ≤ 3 * n; rw [rz_mz_0]; omega⟩
  rintro ⟨j, c, f⟩ ⟨hj, hc, h14, hf, hst, hms⟩ ih
  dsimp only at hj hc h14 hf hst hms ih ⊢
  have done : rz_sw (rz_fam R) n n (rz_it (rz_fam R) n j) = rz_it (rz_fam R) n j → ∀ k, k ≤ n → f k = rz_S R n k := fun hs k hk => by
    unfold rz_S rz_at
    by_cases h : k < n
    · rw [if_pos h, hf k h, rz_it_eq hfl hn hs]; rfl
    · rw [if_neg h, show k = n by omega]; exact h14
  refine ev_ps 1 rfl (ev_if (cd := .eq) rfl (fun h => ?_) (fun h => ?_))
  · exact ev_ret rfl rfl ⟨rfl, f, rfl, done (hst (rc_eq_t h))⟩
  · have hc1 : c = 1 := hc.resolve_left (rc_eq_f h)
    have hlt := hms hc1
    refine ev_ps 2 rfl (ev_ic (cd := .ge) rfl (fun h1 => ?_) (fun h1 => ?_))
    · have := rn_ge_t (k := 73) (by omega) (by omega) h1
      omega
    · have hj' : j < 73 := rn_ge_f (k := 73) (by omega) (by omega) h1
      refine ev_ps 2 rfl (ev_call (av := [_, _]) rfl rfl rfl rfl ⟨Nat.le_of_ble_eq_true rfl, rfl⟩ ⟨Nat.le_of_ble_eq_true rfl, Nat.le_of_ble_eq_true rfl⟩ (z_findMore_6 (a := rz_ua a 3 f) (R := R) (φ0 := rz_it (rz_fam R) n j) hv hn h14 hpc hl hf (rz_it_K hfl j)) ?_)
      rintro _ _ ⟨u, f2, hu, rfl, rfl, h142, hf2, hu0, hu1⟩
      have h9 := ih (j + 1, u, f2) ⟨by show j + 1 ≤ 73; omega, hu, h142, hf2, fun q => by
        have e2 := hu0 q
        show rz_sw (rz_fam R) n n (rz_sw (rz_fam R) n n (rz_it (rz_fam R) n j)) = rz_sw (rz_fam R) n n (rz_it (rz_fam R) n j)
        rw [e2, e2], fun q => by
        have := hu1 q
        show rz_mz (rz_sw (rz_fam R) n n (rz_it (rz_fam R) n j)) n + (j + 1) ≤ 3 * n
        omega⟩ (by show 73 - (j + 1) < 73 - j; omega)
      dsimp only at h9
      rw [← rz_succ j] at h9
      exact ev_w (w2 := rz_w v (rz_ua a 3 f2) g) rfl (ev_ps 3 rfl h9)
end RZY3
/-! the class, exactly: rows, the prover, the search -/
section RZY4
variable {xs : Nat → Int32} {xl : Nat} {v : Nat → Int32} {a : Nat → Nat → Int32} {g : Nat → Int64} {R : Nat → rz_Q} {n : Nat}
/-- an array holds the codes of plain instructions R p, … -/
def rz_rcd (f : Nat → Int32) (R : Nat → rz_Q) (p m : Nat) : Prop := ∀ i, i < m → f i = rz_pk (R (p + i)) ∧ rz_lg (R (p + i)) ∧ (R (p + i)).1 ≤ 9
theorem y_takeFrom_21 {p m : Nat} (hm : m ≤ 3) (hpm : p + m ≤ n) (hn : n ≤ 24) (hpc : rz_pc a R n) (hl : rz_lgs R n) (hpl : rz_pl R p m) : rz_C xs xl 30 [.ref 21, .ref 1, .int (Int32.ofNat p), .int (Int32.ofNat m)] (rz_w v a g) (fun q w' => q = .inl none ∧ ∃ f, w' = rz_w (rz_up v 11 (Int32.ofNat m)) (rz_ua a 9 f) g ∧ rz_rcd f R p m) := by
  refine ev_ps 2 rfl (ev_w (w2 := rz_w v (rz_ua a 9 (a 9)) g) rfl ?_)
  refine ev_loop (α := Nat × (Nat → Int32)) (fun q => m - q.1) (fun q => q.1 ≤ m ∧ rz_rcd q.2 R p q.1) (fun q => [some (.ref 21), some (.ref 1), some (.int (Int32.ofNat p)), some (.int (Int32.ofNat m)), some (.int (Int32.ofNat q.1))]) (fun _ => []) (fun q => rz_w v (rz_ua a 9 q.2) g) ?_ (0, a 9) ⟨Nat.zero_le _, fun i hi => absurd hi (Nat.not_lt_zero _)⟩
  rintro ⟨k, f⟩ ⟨hk, hf⟩ ih
  dsimp only at hk hf ih ⊢
  refine ev_ps 2 rfl (ev_ic (cd := .ge) rfl (fun h => ?_) (fun h => ?_))
  · have hkm : m ≤ k := rn_ge_t (by omega) (by omega) h
    exact ev_ps 3 rfl (ev_ret rfl rfl ⟨rfl, f, rfl, fun i hi => hf i (by omega)⟩)
  · have hk' : k < m := rn_ge_f (by omega) (by omega) h
    refine ev_ps 7 rfl ?_
    refine ev_call (av := [.ref 1, .int (Int32.ofNat (p + k))]) rfl (by rw [← rz_add]; rfl) rfl rfl ⟨Nat.le_of_ble_eq_true rfl, rfl⟩ ⟨Nat.le_of_ble_eq_true rfl, Nat.le_of_ble_eq_true rfl⟩ (y_codeAt (by omega)) ?_
    rintro _ _ ⟨rfl, rfl⟩
    rw [show rz_ua a 9 f 0 (p + k) = rz_pk (R (p + k)) from hpc (p + k) (by omega)]
    refine ev_ast rfl rfl (rz_in (by omega) (by decide)) ?_
    rw [rz_clamp (k := k) (by omega)]
    have h9 := ih (k + 1, upd f k (rz_pk (R (p + k)))) ⟨by show k + 1 ≤ m; omega, fun i hi => by
      by_cases hik : i = k
      · rw [hik]; exact ⟨by simp [upd], hl _ (by omega), hpl _ (by omega) (by omega)⟩
      · simp only [upd, hik, if_false]; exact hf i (by have : i < k + 1 := hi; omega)⟩ (by show m - (k + 1) < m - k; omega)
    dsimp only at h9
    rw [← rz_succ k] at h9
    exact ev_w (w2 := rz_w v (rz_ua a 9 (upd f k (rz_pk (R (p + k))))) g) rfl (ev_ps 2 rfl h9)
theorem y_takeOne_23 (x : Int32) : rz_C xs xl 43 [.ref 23, .int x] (rz_w v a g) (fun q w' => q = .inl none ∧ ∃ f, w' = rz_w (rz_up v 12 1) (rz_ua a 10 f) g ∧ f 0 = x) := by
  refine ev_ps 4 rfl (ev_ast rfl rfl (by decide) ?_)
  refine ev_w (w2 := rz_w v (rz_ua a 10 (upd (a 10) (0 : Int32).toNatClampNeg x)) g) rfl ?_
  exact ev_ps 3 rfl (ev_ret rfl rfl ⟨rfl, _, rfl, rfl⟩)
theorem y_rowRegs_21 {p m : Nat} {x : Int32} {X : Nat → Int32} (hv : v 11 = Int32.ofNat m) (hm : m ≤ 3) (hr : rz_rcd (a 9) R p m) (hx : rz_rg x X) : rz_C xs xl 36 [.ref 21, .int x] (rz_w v a g) (fun q w' => (∃ u, q = .inl (some (.int u)) ∧ rz_rg u (rz_sq R p m X)) ∧ w' = rz_w v a g) := by
  refine ev_ps 4 rfl ?_
  refine ev_loop (α := Nat × Int32) (fun q => m - q.1) (fun q => q.1 ≤ m ∧ rz_rg q.2 (rz_sq R p q.1 X)) (fun q => [some (.ref 21), some (.int x), some (.int q.2), some (.int (Int32.ofNat q.1))]) (fun _ => []) (fun _ => rz_w v a g) ?_ (0, x) ⟨Nat.zero_le _, hx⟩
  rintro ⟨k, y⟩ ⟨hk, hy⟩ ih
  dsimp only at hk hy ih ⊢
  refine ev_ps 3 rfl (ev_ic (cd := .ge) rfl (fun h => ?_) (fun h => ?_))
  · rw [hv] at h
    have e : k = m := by have := rn_ge_t (by omega) (by omega) h; omega
    subst e
    exact ev_ps 1 rfl (ev_ret rfl rfl ⟨⟨_, rfl, hy⟩, rfl⟩)
  · rw [hv] at h
    have hk' : k < m := rn_ge_f (by omega) (by omega) h
    obtain ⟨e, hlg, h9⟩ := hr k hk'
    refine ev_ps 3 rfl (ev_ald rfl rfl (rz_in (by omega) (by decide)) ?_)
    rw [rz_clamp (k := k) (by omega), e]
    refine ev_ps 1 rfl (ev_call (av := [_, _]) rfl rfl rfl rfl ⟨Nat.le_of_ble_eq_true rfl, rfl⟩ ⟨Nat.le_of_ble_eq_true rfl, Nat.le_of_ble_eq_true rfl⟩ (x_regsAfter hlg h9 hy) ?_)
    rintro _ _ ⟨⟨u, rfl, hu⟩, rfl⟩
    have h9 := ih (k + 1, u) ⟨by show k + 1 ≤ m; omega, hu⟩ (by show m - (k + 1) < m - k; omega)
    dsimp only at h9
    rw [← rz_succ k] at h9
    exact ev_ps 3 rfl h9
theorem y_rowRegs_23 {p m : Nat} {x : Int32} {X : Nat → Int32} (hv : v 12 = Int32.ofNat m) (hm : m ≤ 3) (hr : rz_rcd (a 10) R p m) (hx : rz_rg x X) : rz_C xs xl 36 [.ref 23, .int x] (rz_w v a g) (fun q w' => (∃ u, q = .inl (some (.int u)) ∧ rz_rg u (rz_sq R p m X)) ∧ w' = rz_w v a g) := by
  refine ev_ps 4 rfl ?_
  refine ev_loop (α := Nat × Int32) (fun q => m - q.1) (fun q => q.1 ≤ m ∧ rz_rg q.2 (rz_sq R p q.1 X)) (fun q => [some (.ref 23), some (.int x), some (.int q.2), some (.int (Int32.ofNat q.1))]) (fun _ => []) (fun _ => rz_w v a g) ?_ (0, x) ⟨Nat.zero_le _, hx⟩
  rintro ⟨k, y⟩ ⟨hk, hy⟩ ih
  dsimp only at hk hy ih ⊢
  refine ev_ps 3 rfl (ev_ic (cd := .ge) rfl (fun h => ?_) (fun h => ?_))
  · rw [hv] at h
    have e : k = m := by have := rn_ge_t (by omega) (by omega) h; omega
    subst e
    exact ev_ps 1 rfl (ev_ret rfl rfl ⟨⟨_, rfl, hy⟩, rfl⟩)
  · rw [hv] at h
    have hk' : k < m := rn_ge_f (by omega) (by omega) h
    obtain ⟨e, hlg, h9⟩ := hr k hk'
    refine ev_ps 3 rfl (ev_ald rfl rfl (rz_in (by omega) (by decide)) ?_)
    rw [rz_clamp (k := k) (by omega), e]
    refine ev_ps 1 rfl (ev_call (av := [_, _]) rfl rfl rfl rfl ⟨Nat.le_of_ble_eq_true rfl, rfl⟩ ⟨Nat.le_of_ble_eq_true rfl, Nat.le_of_ble_eq_true rfl⟩ (x_regsAfter hlg h9 hy) ?_)
    rintro _ _ ⟨⟨u, rfl, hu⟩, rfl⟩
    have h9 := ih (k + 1, u) ⟨by show k + 1 ≤ m; omega, hu⟩ (by show m - (k + 1) < m - k; omega)
    dsimp only at h9
    rw [← rz_succ k] at h9
    exact ev_ps 3 rfl h9
theorem rz_b_sh1 {x : Int32} {t : Nat} (ht : t < 16) : rz_b (x >>> (Int32.ofNat t &&& 31)) 0 = rz_b x t := by
  have e : (Int32.ofNat t &&& 31 : Int32).toBitVec.smod 32 = BitVec.ofNat 32 t := by
    have key : ∀ k, k < 16 → (Int32.ofNat k &&& 31 : Int32).toBitVec.smod 32 = BitVec.ofNat 32 k := by decide +kernel
    exact key t ht
  unfold rz_b
  rw [Int32.toBitVec_shiftRight, e]
  have e2 : (BitVec.ofNat 32 t).toNat = t := by rw [BitVec.toNat_ofNat]; omega
  rw [BitVec.sshiftRight', e2, BitVec.getLsbD_sshiftRight]
  rw [if_pos (by omega)]
  simp
theorem rz_on_b {x : Int32} {t : Nat} (ht : t < 16) : ((x >>> (Int32.ofNat t &&& 31)) &&& 1 = 1) ↔ rz_b x t = true := by
  have b1 : ∀ i, i < 32 → rz_b 1 i = decide (i = 0) := by decide +kernel
  rw [← rz_b_sh1 ht]
  generalize x >>> (Int32.ofNat t &&& 31) = y
  constructor
  · intro h
    have h2 : rz_b (y &&& 1) 0 = rz_b 1 0 := by rw [h]
    rw [rz_b_and, b1 0 (by omega)] at h2
    simpa using h2
  · intro h
    apply rz_b_ext
    intro i hi
    rw [rz_b_and, b1 i hi]
    by_cases h0 : i = 0
    · rw [h0, h]; rfl
    · simp [h0]
theorem y_numbers {p m : Nat} (hv : v 11 = Int32.ofNat m) (hm : m ≤ 3) (hr : rz_rcd (a 9) R p m) : rz_C xs xl 40 [.ref 21] (rz_w v a g) (fun q w' => (∃ u, q = .inl (some (.int u)) ∧ ∀ t, t < 16 → (rz_b u t = true ↔ ∃ k, p ≤ k ∧ k < p + m ∧ 6 ≤ (R k).1 ∧ (R k).2.2.2 = t)) ∧ w' = rz_w v a g) := by
  refine ev_ps 4 rfl ?_
  refine ev_loop (α := Nat × Int32) (fun q => m - q.1) (fun q => q.1 ≤ m ∧ ∀ t, t < 16 → (rz_b q.2 t = true ↔ ∃ k, p ≤ k ∧ k < p + q.1 ∧ 6 ≤ (R k).1 ∧ (R k).2.2.2 = t)) (fun q => [some (.ref 21), some (.int q.2), some (.int (Int32.ofNat q.1))]) (fun _ => []) (fun _ => rz_w v a g) ?_ (0, 0) ⟨Nat.zero_le _, fun t ht => ⟨fun h => absurd h (by
    have key : ∀ t, t < 16 → ¬ rz_b 0 t = true := by decide +kernel
    exact key t ht), fun ⟨k, h1, h2, _⟩ => absurd h2 (by show ¬ k < p + 0; omega)⟩⟩
  rintro ⟨k, y⟩ ⟨hk, hy⟩ ih
  dsimp only at hk hy ih ⊢
  have next : k < m → ∀ y : Int32, (∀ t, t < 16 → (rz_b y t = true ↔ ∃ j, p ≤ j ∧ j < p + (k + 1) ∧ 6 ≤ (R j).1 ∧ (R j).2.2.2 = t)) → rz_E xs xl 40 38 [some (.ref 21), some (.int y), some (.int (Int32.ofNat k))] [] (rz_w v a g) 0 0 (fun q w' => (∃ u, q = .inl (some (.int u)) ∧ ∀ t, t < 16 → (rz_b u t = true ↔ ∃ k, p ≤ k ∧ k < p + m ∧ 6 ≤ (R k).1 ∧ (R k).2.2.2 = t)) ∧ w' = rz_w v a g) := fun hkn y hy => by
    have h9 := ih (k + 1, y) ⟨by show k + 1 ≤ m; omega, hy⟩ (by show m - (k + 1) < m - k; omega)
    dsimp only at h9
    rw [← rz_succ k] at h9
    exact ev_ps 2 rfl h9
  refine ev_ps 3 rfl (ev_ic (cd := .ge) rfl (fun h => ?_) (fun h => ?_))
  · rw [hv] at h
    have e : k = m := by have := rn_ge_t (by omega) (by omega) h; omega
    subst e
    exact ev_ps 1 rfl (ev_ret rfl rfl ⟨⟨_, rfl, hy⟩, rfl⟩)
  · rw [hv] at h
    have hk' : k < m := rn_ge_f (by omega) (by omega) h
    obtain ⟨e, hlg, h9⟩ := hr k hk'
    refine ev_ps 3 rfl (ev_ald rfl rfl (rz_in (by omega) (by decide)) ?_)
    rw [rz_clamp (k := k) (by omega), e]
    refine ev_call (av := [_]) rfl rfl rfl rfl ⟨Nat.le_of_ble_eq_true rfl, rfl⟩ ⟨Nat.le_of_ble_eq_true rfl, Nat.le_of_ble_eq_true rfl⟩ (x_hasNumber hlg) ?_
    rintro _ _ ⟨⟨u, hu, hui, rfl⟩, rfl⟩
    refine ev_if (cd := .eq) rfl (fun h2 => next hk' _ (fun t ht => ?_)) (fun h2 => ?_)
    · have hno : ¬ 6 ≤ (R (p + k)).1 := fun z => absurd ((rc_eq_t h2).symm.trans (hui.mpr ⟨z, h9⟩)) (by decide)
      rw [hy t ht]
      constructor
      · rintro ⟨j, j1, j2, j3, j4⟩; exact ⟨j, j1, by omega, j3, j4⟩
      · rintro ⟨j, j1, j2, j3, j4⟩
        refine ⟨j, j1, ?_, j3, j4⟩
        rcases Nat.lt_or_ge j (p + k) with h | h
        · exact h
        · have : j = p + k := by omega
          subst this
          exact absurd j3 hno
    · have hyes := (hui.mp (hu.resolve_left (rc_eq_f h2))).1
      refine ev_ps 5 rfl (ev_ald rfl rfl (rz_in (by omega) (by decide)) ?_)
      rw [rz_clamp (k := k) (by omega), e]
      refine ev_call (av := [_]) rfl rfl rfl rfl ⟨Nat.le_of_ble_eq_true rfl, rfl⟩ ⟨Nat.le_of_ble_eq_true rfl, Nat.le_of_ble_eq_true rfl⟩ (x_t hlg) ?_
      rintro _ _ ⟨rfl, rfl⟩
      refine ev_ps 3 rfl (next hk' (y ||| (1 <<< (Int32.ofNat (R (p + k)).2.2.2 &&& 31))) (fun t ht => ?_))
      have key : ∀ j, j < 25 → ∀ t, t < 16 → rz_b (1 <<< (Int32.ofNat j &&& 31)) t = decide (j = t) := by decide +kernel
      rw [rz_b_or, key _ (by have := hlg.2.2.2.1; omega) t ht, Bool.or_eq_true, hy t ht, decide_eq_true_eq]
      constructor
      · rintro (⟨j, j1, j2, j3, j4⟩ | h)
        · exact ⟨j, j1, by omega, j3, j4⟩
        · exact ⟨p + k, by omega, by omega, hyes, h⟩
      · rintro ⟨j, j1, j2, j3, j4⟩
        rcases Nat.lt_or_ge j (p + k) with h | h
        · exact Or.inl ⟨j, j1, h, j3, j4⟩
        · have : j = p + k := by omega
          subst this
          exact Or.inr j4
theorem y_maskOf {w : rz_W} (x : Int32) : rz_C xs xl 32 [.int x] w (fun q w' => q = .inl (some (.int (rz_mo x 4))) ∧ w' = w) := by
  refine ev_ps 4 rfl ?_
  refine ev_loop (α := Nat × Int32) (fun q => 4 - q.1) (fun q => q.1 ≤ 4 ∧ q.2 = rz_mo x q.1) (fun q => [some (.int x), some (.int q.2), some (.int (Int32.ofNat q.1))]) (fun _ => []) (fun _ => w) ?_ (0, 0) ⟨Nat.zero_le _, rfl⟩
  rintro ⟨k, y⟩ ⟨hk, hy⟩ ih
  dsimp only at hk hy ih ⊢
  have next : k < 4 → ∀ y : Int32, y = rz_mo x (k + 1) → rz_E xs xl 32 27 [some (.int x), some (.int y), some (.int (Int32.ofNat k))] [] w 0 0 (fun q w' => q = .inl (some (.int (rz_mo x 4))) ∧ w' = w) := fun hkn y hy => by
    have h9 := ih (k + 1, y) ⟨by show k + 1 ≤ 4; omega, hy⟩ (by show 4 - (k + 1) < 4 - k; omega)
    dsimp only at h9
    rw [← rz_succ k] at h9
    exact ev_ps 2 rfl h9
  refine ev_ps 2 rfl (ev_ic (cd := .ge) rfl (fun h => ?_) (fun h => ?_))
  · have e : k = 4 := by have := rn_ge_t (k := 4) (by omega) (by omega) h; omega
    subst e
    exact ev_ps 1 rfl (ev_ret rfl rfl ⟨by rw [hy], rfl⟩)
  · have hk' : k < 4 := rn_ge_f (k := 4) (by omega) (by omega) h
    refine ev_ps 6 rfl (ev_ic (cd := .ne) rfl (fun h2 => next hk' _ ?_) (fun h2 => ?_))
    · have e : ¬ ((x >>> (Int32.ofNat k &&& 31)) &&& 1 = 1) := rc_ne_t h2
      rw [hy, rz_mo, if_neg e]
    · refine ev_ps 8 rfl (next hk' _ ?_)
      have e : (x >>> (Int32.ofNat k &&& 31)) &&& 1 = 1 := rc_ne_f h2
      rw [hy, rz_mo, if_pos e]
      rfl
theorem rz_rem {N : Nat} (h : N < 2 ^ 31) : Int32.ofNat N - Int32.ofNat N / 4096 * 4096 = Int32.ofNat (N % 4096) := by
  have e1 : Int32.ofNat N / 4096 = Int32.ofNat (N / 4096) := (Int32.ofNat_div (a := N) (b := 4096) h (by decide)).symm
  have e2 : Int32.ofNat (N / 4096) * 4096 = Int32.ofNat (N / 4096 * 4096) := (Int32.ofNat_mul (N / 4096) 4096).symm
  rw [e1, e2, rz_sub (by omega)]
  congr 1
  omega
theorem rz_cover {L s : Nat} (hL : L < 4096) (hs : s < 4096) : ∃ i, i < 4096 ∧ (L + i * 1237) % 4096 = s :=
  ⟨((s + 4096 - L) * 1149) % 4096, by omega, by omega⟩
theorem y_agree_16 {p m m2 L : Nat} {Q : Nat → rz_Q} {z : Int32} (hz : ∃ S, S < 16 ∧ z = Int32.ofNat S) (h1 : v 11 = Int32.ofNat m) (hm : m ≤ 3) (h2 : v 12 = Int32.ofNat m2) (hm2 : m2 ≤ 3) (h8 : v 8 = Int32.ofNat L) (hL : L < 4096) (hr1 : rz_rcd (a 9) R p m) (hr2 : rz_rcd (a 10) Q 0 m2) : rz_C xs xl 35 [.ref 16, .ref 21, .ref 23, .int (rz_mo z 4)] (rz_w v a g) (fun q w' => (∃ u : Int32, (u = 0 ∨ u = 1) ∧ (u = 1 ↔ rz_ag (rz_sq R p m) (rz_sq Q 0 m2) z) ∧ q = .inl (some (.int u))) ∧ ∃ L', L' < 4096 ∧ w' = rz_w (rz_up v 8 (Int32.ofNat L')) a g) := by
  obtain ⟨S, hS, rfl⟩ := hz
  refine ev_ps 2 rfl ?_
  refine ev_loop (α := Nat × Option Value × Option Value × Option Value) (fun q => 4096 - q.1) (fun q => q.1 ≤ 4096 ∧ ∀ i, i < q.1 → ∀ k, 1 ≤ k → k < 4 → rz_on (Int32.ofNat S) k → rz_sq R p m (rz_bg ((L + i * 1237) % 4096)) k = rz_sq Q 0 m2 (rz_bg ((L + i * 1237) % 4096)) k) (fun q => [some (.ref 16), some (.ref 21), some (.ref 23), some (.int (rz_mo (Int32.ofNat S) 4)), some (.int (Int32.ofNat q.1)), q.2.1, q.2.2.1, q.2.2.2]) (fun _ => []) (fun _ => rz_w v a g) ?_ (0, none, none, none) ⟨Nat.zero_le _, fun i hi => absurd hi (Nat.not_lt_zero _)⟩
  rintro ⟨k, t5, t6, t7⟩ ⟨hk, hall⟩ ih
  dsimp only at hk hall ih ⊢
  refine ev_ps 2 rfl (ev_ic (cd := .ge) rfl (fun h => ?_) (fun h => ?_))
  · have hk4 : 4096 ≤ k := rn_ge_t (k := 4096) (by omega) (by omega) h
    refine ev_ps 1 rfl (ev_ret rfl rfl ⟨⟨1, Or.inr rfl, ⟨fun _ => ?_, fun _ => rfl⟩, rfl⟩, L, hL, by rw [← h8]; rfl⟩)
    intro s hs j j1 j2 j3
    obtain ⟨i, hi, e⟩ := rz_cover hL hs
    rw [← e]
    exact hall i (by omega) j j1 j2 j3
  · have hk' : k < 4096 := rn_ge_f (k := 4096) (by omega) (by omega) h
    have hs : (L + k * 1237) % 4096 < 4096 := by omega
    have eN : v 8 + Int32.ofNat k * 1237 - (v 8 + Int32.ofNat k * 1237) / 4096 * 4096 = Int32.ofNat ((L + k * 1237) % 4096) := by
      have e1 : v 8 + Int32.ofNat k * 1237 = Int32.ofNat (L + k * 1237) := by
        rw [h8, show Int32.ofNat k * 1237 = Int32.ofNat (k * 1237) from (Int32.ofNat_mul k 1237).symm, rz_add]
      rw [e1]
      exact rz_rem (by omega)
    refine ev_ps 9 rfl ?_
    refine ev_l (L2 := [some (.ref 16), some (.ref 21), some (.ref 23), some (.int (rz_mo (Int32.ofNat S) 4)), some (.int (Int32.ofNat k)), some (.int (Int32.ofNat ((L + k * 1237) % 4096))), t6, t7]) (by rw [← eN]; rfl) ?_
    generalize hsd : (L + k * 1237) % 4096 = s at hs ⊢
    have hrg : rz_rg (Int32.ofNat s <<< (4 &&& 31)) (rz_bg s) := ⟨rfl, fun j hj => rz_bg_vl hs hj⟩
    refine ev_ps 6 rfl ?_
    refine ev_call (av := [_, _]) rfl rfl rfl rfl ⟨Nat.le_of_ble_eq_true rfl, rfl⟩ ⟨Nat.le_of_ble_eq_true rfl, Nat.le_of_ble_eq_true rfl⟩ (y_rowRegs_21 h1 hm hr1 hrg) ?_
    rintro _ _ ⟨⟨u1, rfl, hu1⟩, rfl⟩
    refine ev_ps 2 rfl (ev_call (av := [_, _]) rfl rfl rfl rfl ⟨Nat.le_of_ble_eq_true rfl, rfl⟩ ⟨Nat.le_of_ble_eq_true rfl, Nat.le_of_ble_eq_true rfl⟩ (y_rowRegs_23 (R := Q) h2 hm2 hr2 hrg) ?_)
    rintro _ _ ⟨⟨u2, rfl, hu2⟩, rfl⟩
    have hiff : ((u1 ^^^ u2) &&& rz_mo (Int32.ofNat S) 4 = 0) ↔ ∀ j, 1 ≤ j → j < 4 → rz_on (Int32.ofNat S) j → rz_sq R p m (rz_bg s) j = rz_sq Q 0 m2 (rz_bg s) j := by
      rw [rz_cmp0 hS]
      constructor
      · intro h j j1 j2 j3
        rw [← hu1.2 j j2, ← hu2.2 j j2]
        exact h j j2 j3
      · intro h j j2 j3
        rw [hu1.2 j j2, hu2.2 j j2]
        rcases Nat.eq_zero_or_pos j with rfl | j1
        · rw [hu1.1, hu2.1]
        · exact h j j1 j2 j3
    refine ev_ps 5 rfl (ev_if (cd := .eq) rfl (fun h => ?_) (fun h => ?_))
    · have hag := hiff.mp (rc_eq_t h)
      have h9 := fun t5 t6 t7 => ih (k + 1, t5, t6, t7) ⟨by show k + 1 ≤ 4096; omega, fun i hi => by
        by_cases hik : i = k
        · rw [hik, hsd]; exact hag
        · exact hall i (by have : i < k + 1 := hi; omega)⟩ (by show 4096 - (k + 1) < 4096 - k; omega)
      dsimp only at h9
      rw [← rz_succ k] at h9
      exact ev_ps 2 rfl (h9 _ _ _)
    · refine ev_ps 4 rfl (ev_ret rfl rfl ⟨⟨0, Or.inl rfl, ⟨fun q => absurd q (by decide), fun q => ?_⟩, rfl⟩, s, hs, rfl⟩)
      exact absurd (hiff.mpr (fun j j1 j2 j3 => q s hs j j1 j2 j3)) (rc_eq_f h)
theorem y_nothingDoes {p m L l : Nat} {z : Int32} (hz : ∃ S, S < 16 ∧ z = Int32.ofNat S) (h1 : v 11 = Int32.ofNat m) (hm : m ≤ 3) (h8 : v 8 = Int32.ofNat L) (hL : L < 4096) (h15 : v 15 = Int32.ofNat l) (hr1 : rz_rcd (a 9) R p m) : rz_C xs xl 33 [.ref 13, .int (rz_mo z 4)] (rz_w v a g) (fun q w' => (∃ u : Int32, (u = 0 ∨ u = 1) ∧ (u = 1 ↔ rz_nd R p m z) ∧ q = .inl (some (.int u))) ∧ ∃ L', L' < 4096 ∧ w' = rz_w (rz_up (rz_up (rz_up v 12 0) 15 (Int32.ofNat (l + 1))) 8 (Int32.ofNat L')) a g) := by
  refine ev_ps 2 rfl (ev_call (av := [_]) rfl rfl rfl rfl ⟨Nat.le_of_ble_eq_true rfl, rfl⟩ ⟨Nat.le_of_ble_eq_true rfl, Nat.le_of_ble_eq_true rfl⟩ (c_takeNothing_23) ?_)
  rintro _ _ ⟨rfl, rfl⟩
  refine ev_ps 6 rfl (ev_w (w2 := rz_w (rz_up (rz_up v 12 0) 15 (Int32.ofNat (l + 1))) a g) (by rw [← rz_succ l, ← h15]; rfl) ?_)
  refine ev_ps 7 rfl (ev_call (av := [_, _, _, _]) rfl rfl rfl rfl ⟨Nat.le_of_ble_eq_true rfl, rfl⟩ ⟨Nat.le_of_ble_eq_true rfl, Nat.le_of_ble_eq_true rfl⟩ (y_agree_16 (Q := R) (m2 := 0) hz h1 hm rfl (by omega) h8 hL hr1 (fun i hi => absurd hi (Nat.not_lt_zero _))) ?_)
  rintro _ _ ⟨⟨u, hu, hui, rfl⟩, L', hL', rfl⟩
  exact ev_ret rfl (show (if u = 0 ∨ u = 1 then some (some (Value.int u)) else none) = _ from if_pos hu) ⟨⟨u, hu, hui, rfl⟩, L', hL', rfl⟩
theorem y_firstInstruction {p m L0 l : Nat} {z : Int32} (hz : ∃ S, S < 16 ∧ z = Int32.ofNat S) (h1 : v 11 = Int32.ofNat m) (hm : m ≤ 3) (h8 : v 8 = Int32.ofNat L0) (hL0 : L0 < 4096) (h15 : v 15 = Int32.ofNat l) (hr1 : rz_rcd (a 9) R p m) : rz_C xs xl 39 [.ref 13, .int (rz_mo z 4)] (rz_w v a g) (fun q w' => ∃ (j L : Nat) (c : Int32) (f : Nat → Int32), j ≤ 1920 ∧ (∀ i, i < j → ¬ rz_ht R p m z i) ∧ (j < 1920 → rz_ht R p m z j) ∧ q = .inl (some (.int (if j < 1920 then rz_pk (rz_cq j) else -2))) ∧ L < 4096 ∧ w' = (rz_w (rz_up (rz_up (rz_up v 12 c) 15 (Int32.ofNat (l + rz_ct (rz_ch R p m) (if j < 1920 then j + 1 else 1920)))) 8 (Int32.ofNat L)) (rz_ua a 10 f) g)) := by
  refine ev_ps 3 rfl (ev_call (av := [_]) rfl rfl rfl rfl ⟨Nat.le_of_ble_eq_true rfl, rfl⟩ ⟨Nat.le_of_ble_eq_true rfl, Nat.le_of_ble_eq_true rfl⟩ (y_numbers h1 hm hr1) ?_)
  rintro _ _ ⟨⟨N0, rfl, hN0⟩, rfl⟩
  refine ev_ps 4 rfl ?_
  have hU : ∀ t, t < 16 → ((((32771 : Int32) ||| N0) >>> (Int32.ofNat t &&& 31)) &&& 1 = 1 ↔ rz_cd R p m t) := fun t ht => by
    have key : ∀ t, t < 16 → rz_b 32771 t = (decide (t = 0) || decide (t = 1) || decide (t = 15)) := by decide +kernel
    rw [rz_on_b ht, rz_b_or, key t ht, Bool.or_eq_true, hN0 t ht]
    unfold rz_cd
    simp only [Bool.or_eq_true, decide_eq_true_eq]
    constructor
    · rintro (((h | h) | h) | h)
      · exact Or.inl h
      · exact Or.inr (Or.inl h)
      · exact Or.inr (Or.inr (Or.inl h))
      · exact Or.inr (Or.inr (Or.inr h))
    · rintro (h | h | h | h)
      · exact Or.inl (Or.inl (Or.inl h))
      · exact Or.inl (Or.inl (Or.inr h))
      · exact Or.inl (Or.inr h)
      · exact Or.inr h
  suffices H : ∀ U : Int32, (∀ t, t < 16 → ((U >>> (Int32.ofNat t &&& 31)) &&& 1 = 1 ↔ rz_cd R p m t)) → rz_E xs xl 39 13 [some (.ref 13), some (.int (rz_mo z 4)), some (.int U), some (.int (Int32.ofNat 0)), none, none, none, none, none] [] (rz_w v a g) 0 0 (fun q w' => ∃ (j L : Nat) (c : Int32) (f : Nat → Int32), j ≤ 1920 ∧ (∀ i, i < j → ¬ rz_ht R p m z i) ∧ (j < 1920 → rz_ht R p m z j) ∧ q = .inl (some (.int (if j < 1920 then rz_pk (rz_cq j) else -2))) ∧ L < 4096 ∧ w' = (rz_w (rz_up (rz_up (rz_up v 12 c) 15 (Int32.ofNat (l + rz_ct (rz_ch R p m) (if j < 1920 then j + 1 else 1920)))) 8 (Int32.ofNat L)) (rz_ua a 10 f) g)) from H _ hU
  clear hU hN0
  intro U hU
  have Lt : ∀ (o i j : Nat) (ch : Int32) (B : Nat), o < 10 → 1 ≤ i → i < 4 → j < 4 → B = o * 192 + (i - 1) * 64 + j * 16 → (∀ t, t < 16 → ∀ N, N / 192 = o → N % 16 = t → ((ch >>> (Int32.ofNat t &&& 31)) &&& 1 = 1 ↔ rz_ch R p m N)) → (∀ (t7 t8 : Option Value) (L : Nat) (c : Int32) (f : Nat → Int32) (N : Nat), N = B + 16 → L < 4096 → (∀ x, x < N → ¬ rz_ht R p m z x) → rz_E xs xl 39 130 [some (.ref 13), some (.int (rz_mo z 4)), some (.int U), some (.int (Int32.ofNat o)), some (.int ch), some (.int (Int32.ofNat i)), some (.int (Int32.ofNat j)), t7, t8] [] (rz_w (rz_up (rz_up (rz_up v 12 c) 15 (Int32.ofNat (l + rz_ct (rz_ch R p m) N))) 8 (Int32.ofNat L)) (rz_ua a 10 f) g) 0 0 (fun q w' => ∃ (j L : Nat) (c : Int32) (f : Nat → Int32), j ≤ 1920 ∧ (∀ i, i < j → ¬ rz_ht R p m z i) ∧ (j < 1920 → rz_ht R p m z j) ∧ q = .inl (some (.int (if j < 1920 then rz_pk (rz_cq j) else -2))) ∧ L < 4096 ∧ w' = (rz_w (rz_up (rz_up (rz_up v 12 c) 15 (Int32.ofNat (l + rz_ct (rz_ch R p m) (if j < 1920 then j + 1 else 1920)))) 8 (Int32.ofNat L)) (rz_ua a 10 f) g))) → ∀ (t8 : Option Value) (L : Nat) (c : Int32) (f : Nat → Int32) (N : Nat), N = B → L < 4096 → (∀ x, x < N → ¬ rz_ht R p m z x) → rz_E xs xl 39 53 [some (.ref 13), some (.int (rz_mo z 4)), some (.int U), some (.int (Int32.ofNat o)), some (.int ch), some (.int (Int32.ofNat i)), some (.int (Int32.ofNat j)), some (.int (Int32.ofNat 0)), t8] [] (rz_w (rz_up (rz_up (rz_up v 12 c) 15 (Int32.ofNat (l + rz_ct (rz_ch R p m) N))) 8 (Int32.ofNat L)) (rz_ua a 10 f) g) 0 0 (fun q w' => ∃ (j L : Nat) (c : Int32) (f : Nat → Int32), j ≤ 1920 ∧ (∀ i, i < j → ¬ rz_ht R p m z i) ∧ (j < 1920 → rz_ht R p m z j) ∧ q = .inl (some (.int (if j < 1920 then rz_pk (rz_cq j) else -2))) ∧ L < 4096 ∧ w' = (rz_w (rz_up (rz_up (rz_up v 12 c) 15 (Int32.ofNat (l + rz_ct (rz_ch R p m) (if j < 1920 then j + 1 else 1920)))) 8 (Int32.ofNat L)) (rz_ua a 10 f) g)) := by
    intro o i j ch B ho hi1 hi hj hB hch hK t8 L c f N hN hL hno
    refine ev_loop (α := Nat × Option Value × Nat × Int32 × (Nat → Int32) × Nat) (fun q => 16 - q.1) (fun q => q.1 ≤ 16 ∧ q.2.2.2.2.2 = B + q.1 ∧ q.2.2.1 < 4096 ∧ ∀ x, x < q.2.2.2.2.2 → ¬ rz_ht R p m z x) (fun q => [some (.ref 13), some (.int (rz_mo z 4)), some (.int U), some (.int (Int32.ofNat o)), some (.int ch), some (.int (Int32.ofNat i)), some (.int (Int32.ofNat j)), some (.int (Int32.ofNat q.1)), q.2.1]) (fun _ => []) (fun q => (rz_w (rz_up (rz_up (rz_up v 12 q.2.2.2.1) 15 (Int32.ofNat (l + rz_ct (rz_ch R p m) q.2.2.2.2.2))) 8 (Int32.ofNat q.2.2.1)) (rz_ua a 10 q.2.2.2.2.1) g)) ?_ (0, t8, L, c, f, N) ⟨Nat.zero_le _, hN, hL, hno⟩
    clear hN hL hno
    clear t8 L c f N
    rintro ⟨k, t8, L, c, f, N⟩ ⟨hk, hN, hL, hno⟩ ih
    dsimp only at hk hN hL hno ih ⊢
    have next : k < 16 → ¬ rz_ht R p m z N → ∀ (t8 : Option Value) (L : Nat) (c : Int32) (f : Nat → Int32), L < 4096 → rz_E xs xl 39 124 [some (.ref 13), some (.int (rz_mo z 4)), some (.int U), some (.int (Int32.ofNat o)), some (.int ch), some (.int (Int32.ofNat i)), some (.int (Int32.ofNat j)), some (.int (Int32.ofNat k)), t8] [] (rz_w (rz_up (rz_up (rz_up v 12 c) 15 (Int32.ofNat (l + rz_ct (rz_ch R p m) (N + 1)))) 8 (Int32.ofNat L)) (rz_ua a 10 f) g) 0 0 (fun q w' => ∃ (j L : Nat) (c : Int32) (f : Nat → Int32), j ≤ 1920 ∧ (∀ i, i < j → ¬ rz_ht R p m z i) ∧ (j < 1920 → rz_ht R p m z j) ∧ q = .inl (some (.int (if j < 1920 then rz_pk (rz_cq j) else -2))) ∧ L < 4096 ∧ w' = (rz_w (rz_up (rz_up (rz_up v 12 c) 15 (Int32.ofNat (l + rz_ct (rz_ch R p m) (if j < 1920 then j + 1 else 1920)))) 8 (Int32.ofNat L)) (rz_ua a 10 f) g)) := fun hk' hnt t8 L c f hL => by
      have h9 := ih (k + 1, t8, L, c, f, N + 1) ⟨by show k + 1 ≤ 16; omega, by show N + 1 = B + (k + 1); omega, hL, fun x hx => by
        by_cases hxN : x = N
        · rw [hxN]; exact hnt
        · exact hno x (by have : x < N + 1 := hx; omega)⟩ (by show 16 - (k + 1) < 16 - k; omega)
      dsimp only at h9
      rw [← rz_succ k] at h9
      exact ev_ps 2 rfl h9
    refine ev_ps 2 rfl (ev_ic (cd := .gt) rfl (fun h => ?_) (fun h => ?_))
    · have : 15 < k := rn_gt_t (k := 15) (by omega) (by omega) h
      exact hK _ _ _ _ _ _ (by omega) hL hno
    have hk' : k < 16 := by
      have : k ≤ 15 := rn_gt_f (k := 15) (by omega) (by omega) h
      omega
    have hNo : N / 192 = o := by omega
    have hNk : N % 16 = k := by omega
    have hN1 : N < 1920 := by omega
    have hcq : rz_cq N = (o, i, j, k) := by
      unfold rz_cq
      rw [hNo, hNk, show 1 + N / 64 % 3 = i by omega, show N / 16 % 4 = j by omega]
    have hci := hch k hk' N hNo hNk
    refine ev_ps 6 rfl (ev_ic (cd := .ne) rfl (fun h => ?_) (fun h => ?_))
    · have hnc : ¬ rz_ch R p m N := fun q => rc_ne_t h (hci.mpr q)
      have h9 := next hk' (fun q => hnc q.1) t8 L c f hL
      rw [rz_ct, rz_dc_f hnc] at h9
      exact h9
    have hyc : rz_ch R p m N := hci.mp (rc_ne_f h)
    have hlg := rz_ch_lg hN1 hyc
    refine ev_ps 4 rfl (ev_call (av := [_, _, _, _]) rfl rfl rfl rfl ⟨Nat.le_of_ble_eq_true rfl, rfl⟩ ⟨Nat.le_of_ble_eq_true rfl, Nat.le_of_ble_eq_true rfl⟩ (c_pack _ _ _ _) ?_)
    rintro _ _ ⟨rfl, rfl⟩
    rw [show (Int32.ofNat o <<< 9 ||| Int32.ofNat i <<< 7 ||| Int32.ofNat j <<< 5 ||| Int32.ofNat k) = rz_pk (rz_cq N) from by rw [hcq]; rfl]
    refine ev_ps 4 rfl (ev_call (av := [_, _]) rfl rfl rfl rfl ⟨Nat.le_of_ble_eq_true rfl, rfl⟩ ⟨Nat.le_of_ble_eq_true rfl, Nat.le_of_ble_eq_true rfl⟩ (y_takeOne_23 _) ?_)
    rintro _ _ ⟨rfl, f2, rfl, hf2⟩
    have ecount : Int32.ofNat (l + rz_ct (rz_ch R p m) N) + Int32.ofInt 1 = Int32.ofNat (l + rz_ct (rz_ch R p m) (N + 1)) := by
      rw [rz_ct, rz_dc_t hyc, if_pos rfl, ← Nat.add_assoc]
      exact rz_succ _
    refine ev_ps 6 rfl (ev_w (w2 := (rz_w (rz_up (rz_up (rz_up v 12 1) 15 (Int32.ofNat (l + rz_ct (rz_ch R p m) (N + 1)))) 8 (Int32.ofNat L)) (rz_ua a 10 f2) g)) (by rw [← ecount]; rfl) ?_)
    have hr2 : rz_rcd f2 (fun _ => rz_cq N) 0 1 := fun i hi => by
      have e0 : i = 0 := by omega
      subst e0
      exact ⟨hf2, hlg, by show (rz_cq N).1 ≤ 9; rw [hcq]; show o ≤ 9; omega⟩
    refine ev_ps 7 rfl (ev_call (av := [_, _, _, _]) rfl rfl rfl rfl ⟨Nat.le_of_ble_eq_true rfl, rfl⟩ ⟨Nat.le_of_ble_eq_true rfl, Nat.le_of_ble_eq_true rfl⟩ (y_agree_16 (v := rz_up (rz_up (rz_up v 12 1) 15 (Int32.ofNat (l + rz_ct (rz_ch R p m) (N + 1)))) 8 (Int32.ofNat L)) (a := rz_ua a 10 f2) (R := R) (p := p) (m := m) (m2 := 1) (L := L) (Q := fun _ => rz_cq N) hz h1 hm rfl (by omega) rfl hL hr1 hr2) ?_)
    rintro _ _ ⟨⟨u, hu, hui, rfl⟩, L2, hL2, rfl⟩
    refine ev_w (w2 := (rz_w (rz_up (rz_up (rz_up v 12 1) 15 (Int32.ofNat (l + rz_ct (rz_ch R p m) (N + 1)))) 8 (Int32.ofNat L2)) (rz_ua a 10 f2) g)) rfl ?_
    refine ev_if (cd := .eq) rfl (fun h => next hk' (fun q => ?_) _ _ _ _ hL2) (fun h => ?_)
    · exact absurd ((rc_eq_t h).symm.trans (hui.mpr q.2)) (by decide)
    · refine ev_ps 1 rfl (ev_ret rfl rfl ⟨N, L2, 1, f2, by omega, hno, fun _ => ⟨hyc, hui.mp (hu.resolve_left (rc_eq_f h))⟩, ?_, hL2, ?_⟩)
      · rw [if_pos hN1]
      · rw [if_pos hN1]
  have Ls : ∀ (o i : Nat) (ch : Int32) (B : Nat), o < 10 → 1 ≤ i → i < 4 → B = o * 192 + (i - 1) * 64 → (∀ t, t < 16 → ∀ N, N / 192 = o → N % 16 = t → ((ch >>> (Int32.ofNat t &&& 31)) &&& 1 = 1 ↔ rz_ch R p m N)) → (∀ (t6 t7 t8 : Option Value) (L : Nat) (c : Int32) (f : Nat → Int32) (N : Nat), N = B + 64 → L < 4096 → (∀ x, x < N → ¬ rz_ht R p m z x) → rz_E xs xl 39 136 [some (.ref 13), some (.int (rz_mo z 4)), some (.int U), some (.int (Int32.ofNat o)), some (.int ch), some (.int (Int32.ofNat i)), t6, t7, t8] [] (rz_w (rz_up (rz_up (rz_up v 12 c) 15 (Int32.ofNat (l + rz_ct (rz_ch R p m) N))) 8 (Int32.ofNat L)) (rz_ua a 10 f) g) 0 0 (fun q w' => ∃ (j L : Nat) (c : Int32) (f : Nat → Int32), j ≤ 1920 ∧ (∀ i, i < j → ¬ rz_ht R p m z i) ∧ (j < 1920 → rz_ht R p m z j) ∧ q = .inl (some (.int (if j < 1920 then rz_pk (rz_cq j) else -2))) ∧ L < 4096 ∧ w' = (rz_w (rz_up (rz_up (rz_up v 12 c) 15 (Int32.ofNat (l + rz_ct (rz_ch R p m) (if j < 1920 then j + 1 else 1920)))) 8 (Int32.ofNat L)) (rz_ua a 10 f) g))) → ∀ (t7 t8 : Option Value) (L : Nat) (c : Int32) (f : Nat → Int32) (N : Nat), N = B → L < 4096 → (∀ x, x < N → ¬ rz_ht R p m z x) → rz_E xs xl 39 44 [some (.ref 13), some (.int (rz_mo z 4)), some (.int U), some (.int (Int32.ofNat o)), some (.int ch), some (.int (Int32.ofNat i)), some (.int (Int32.ofNat 0)), t7, t8] [] (rz_w (rz_up (rz_up (rz_up v 12 c) 15 (Int32.ofNat (l + rz_ct (rz_ch R p m) N))) 8 (Int32.ofNat L)) (rz_ua a 10 f) g) 0 0 (fun q w' => ∃ (j L : Nat) (c : Int32) (f : Nat → Int32), j ≤ 1920 ∧ (∀ i, i < j → ¬ rz_ht R p m z i) ∧ (j < 1920 → rz_ht R p m z j) ∧ q = .inl (some (.int (if j < 1920 then rz_pk (rz_cq j) else -2))) ∧ L < 4096 ∧ w' = (rz_w (rz_up (rz_up (rz_up v 12 c) 15 (Int32.ofNat (l + rz_ct (rz_ch R p m) (if j < 1920 then j + 1 else 1920)))) 8 (Int32.ofNat L)) (rz_ua a 10 f) g)) := by
    intro o i ch B ho hi1 hi hB hch hK t7 t8 L c f N hN hL hno
    refine ev_loop (α := Nat × Option Value × Option Value × Nat × Int32 × (Nat → Int32) × Nat) (fun q => 4 - q.1) (fun q => q.1 ≤ 4 ∧ q.2.2.2.2.2.2 = B + q.1 * 16 ∧ q.2.2.2.1 < 4096 ∧ ∀ x, x < q.2.2.2.2.2.2 → ¬ rz_ht R p m z x) (fun q => [some (.ref 13), some (.int (rz_mo z 4)), some (.int U), some (.int (Int32.ofNat o)), some (.int ch), some (.int (Int32.ofNat i)), some (.int (Int32.ofNat q.1)), q.2.1, q.2.2.1]) (fun _ => []) (fun q => (rz_w (rz_up (rz_up (rz_up v 12 q.2.2.2.2.1) 15 (Int32.ofNat (l + rz_ct (rz_ch R p m) q.2.2.2.2.2.2))) 8 (Int32.ofNat q.2.2.2.1)) (rz_ua a 10 q.2.2.2.2.2.1) g)) ?_ (0, t7, t8, L, c, f, N) ⟨Nat.zero_le _, by show N = B + 0 * 16; omega, hL, hno⟩
    clear hN hL hno
    clear t7 t8 L c f N
    rintro ⟨k, t7, t8, L, c, f, N⟩ ⟨hk, hN, hL, hno⟩ ih
    dsimp only at hk hN hL hno ih ⊢
    refine ev_ps 2 rfl (ev_ic (cd := .ge) rfl (fun h => ?_) (fun h => ?_))
    · have : 4 ≤ k := rn_ge_t (k := 4) (by omega) (by omega) h
      exact hK _ _ _ _ _ _ _ (by omega) hL hno
    have hk' : k < 4 := rn_ge_f (k := 4) (by omega) (by omega) h
    refine ev_ps 2 rfl (Lt o i k ch N ho hi1 hi hk' (by omega) hch (fun t7 t8 L c f N' hN' hL hno => ?_) _ _ _ _ _ rfl hL hno)
    have h9 := ih (k + 1, t7, t8, L, c, f, N') ⟨by show k + 1 ≤ 4; omega, by show N' = B + (k + 1) * 16; omega, hL, hno⟩ (by show 4 - (k + 1) < 4 - k; omega)
    dsimp only at h9
    rw [← rz_succ k] at h9
    exact ev_ps 2 rfl h9
  have Ld : ∀ (o : Nat) (ch : Int32) (B : Nat), o < 10 → B = o * 192 → (∀ t, t < 16 → ∀ N, N / 192 = o → N % 16 = t → ((ch >>> (Int32.ofNat t &&& 31)) &&& 1 = 1 ↔ rz_ch R p m N)) → (∀ (t5 t6 t7 t8 : Option Value) (L : Nat) (c : Int32) (f : Nat → Int32) (N : Nat), N = B + 192 → L < 4096 → (∀ x, x < N → ¬ rz_ht R p m z x) → rz_E xs xl 39 142 [some (.ref 13), some (.int (rz_mo z 4)), some (.int U), some (.int (Int32.ofNat o)), some (.int ch), t5, t6, t7, t8] [] (rz_w (rz_up (rz_up (rz_up v 12 c) 15 (Int32.ofNat (l + rz_ct (rz_ch R p m) N))) 8 (Int32.ofNat L)) (rz_ua a 10 f) g) 0 0 (fun q w' => ∃ (j L : Nat) (c : Int32) (f : Nat → Int32), j ≤ 1920 ∧ (∀ i, i < j → ¬ rz_ht R p m z i) ∧ (j < 1920 → rz_ht R p m z j) ∧ q = .inl (some (.int (if j < 1920 then rz_pk (rz_cq j) else -2))) ∧ L < 4096 ∧ w' = (rz_w (rz_up (rz_up (rz_up v 12 c) 15 (Int32.ofNat (l + rz_ct (rz_ch R p m) (if j < 1920 then j + 1 else 1920)))) 8 (Int32.ofNat L)) (rz_ua a 10 f) g))) → ∀ (t6 t7 t8 : Option Value) (L : Nat) (c : Int32) (f : Nat → Int32) (N : Nat), N = B → L < 4096 → (∀ x, x < N → ¬ rz_ht R p m z x) → rz_E xs xl 39 35 [some (.ref 13), some (.int (rz_mo z 4)), some (.int U), some (.int (Int32.ofNat o)), some (.int ch), some (.int (Int32.ofNat 1)), t6, t7, t8] [] (rz_w (rz_up (rz_up (rz_up v 12 c) 15 (Int32.ofNat (l + rz_ct (rz_ch R p m) N))) 8 (Int32.ofNat L)) (rz_ua a 10 f) g) 0 0 (fun q w' => ∃ (j L : Nat) (c : Int32) (f : Nat → Int32), j ≤ 1920 ∧ (∀ i, i < j → ¬ rz_ht R p m z i) ∧ (j < 1920 → rz_ht R p m z j) ∧ q = .inl (some (.int (if j < 1920 then rz_pk (rz_cq j) else -2))) ∧ L < 4096 ∧ w' = (rz_w (rz_up (rz_up (rz_up v 12 c) 15 (Int32.ofNat (l + rz_ct (rz_ch R p m) (if j < 1920 then j + 1 else 1920)))) 8 (Int32.ofNat L)) (rz_ua a 10 f) g)) := by
    intro o ch B ho hB hch hK t6 t7 t8 L c f N hN hL hno
    refine ev_loop (α := Nat × Option Value × Option Value × Option Value × Nat × Int32 × (Nat → Int32) × Nat) (fun q => 4 - q.1) (fun q => 1 ≤ q.1 ∧ q.1 ≤ 4 ∧ q.2.2.2.2.2.2.2 = B + (q.1 - 1) * 64 ∧ q.2.2.2.2.1 < 4096 ∧ ∀ x, x < q.2.2.2.2.2.2.2 → ¬ rz_ht R p m z x) (fun q => [some (.ref 13), some (.int (rz_mo z 4)), some (.int U), some (.int (Int32.ofNat o)), some (.int ch), some (.int (Int32.ofNat q.1)), q.2.1, q.2.2.1, q.2.2.2.1]) (fun _ => []) (fun q => (rz_w (rz_up (rz_up (rz_up v 12 q.2.2.2.2.2.1) 15 (Int32.ofNat (l + rz_ct (rz_ch R p m) q.2.2.2.2.2.2.2))) 8 (Int32.ofNat q.2.2.2.2.1)) (rz_ua a 10 q.2.2.2.2.2.2.1) g)) ?_ (1, t6, t7, t8, L, c, f, N) ⟨Nat.le_refl _, by show 1 ≤ 4; omega, by show N = B + (1 - 1) * 64; omega, hL, hno⟩
    clear hN hL hno
    clear t6 t7 t8 L c f N
    rintro ⟨k, t6, t7, t8, L, c, f, N⟩ ⟨hk1, hk, hN, hL, hno⟩ ih
    dsimp only at hk1 hk hN hL hno ih ⊢
    refine ev_ps 2 rfl (ev_ic (cd := .ge) rfl (fun h => ?_) (fun h => ?_))
    · have : 4 ≤ k := rn_ge_t (k := 4) (by omega) (by omega) h
      exact hK _ _ _ _ _ _ _ _ (by omega) hL hno
    have hk' : k < 4 := rn_ge_f (k := 4) (by omega) (by omega) h
    refine ev_ps 2 rfl (Ls o k ch N ho hk1 hk' (by omega) hch (fun t6 t7 t8 L c f N' hN' hL hno => ?_) _ _ _ _ _ _ rfl hL hno)
    have h9 := ih (k + 1, t6, t7, t8, L, c, f, N') ⟨by show 1 ≤ k + 1; omega, by show k + 1 ≤ 4; omega, by show N' = B + (k + 1 - 1) * 64; omega, hL, hno⟩ (by show 4 - (k + 1) < 4 - k; omega)
    dsimp only at h9
    rw [← rz_succ k] at h9
    exact ev_ps 2 rfl h9
  have Lo : ∀ (t4 t5 t6 t7 t8 : Option Value) (L : Nat) (c : Int32) (f : Nat → Int32) (N : Nat), N = 0 → L < 4096 → (∀ x, x < N → ¬ rz_ht R p m z x) → rz_E xs xl 39 13 [some (.ref 13), some (.int (rz_mo z 4)), some (.int U), some (.int (Int32.ofNat 0)), t4, t5, t6, t7, t8] [] (rz_w (rz_up (rz_up (rz_up v 12 c) 15 (Int32.ofNat (l + rz_ct (rz_ch R p m) N))) 8 (Int32.ofNat L)) (rz_ua a 10 f) g) 0 0 (fun q w' => ∃ (j L : Nat) (c : Int32) (f : Nat → Int32), j ≤ 1920 ∧ (∀ i, i < j → ¬ rz_ht R p m z i) ∧ (j < 1920 → rz_ht R p m z j) ∧ q = .inl (some (.int (if j < 1920 then rz_pk (rz_cq j) else -2))) ∧ L < 4096 ∧ w' = (rz_w (rz_up (rz_up (rz_up v 12 c) 15 (Int32.ofNat (l + rz_ct (rz_ch R p m) (if j < 1920 then j + 1 else 1920)))) 8 (Int32.ofNat L)) (rz_ua a 10 f) g)) := by
    intro t4 t5 t6 t7 t8 L c f N hN hL hno
    refine ev_loop (α := Nat × Option Value × Option Value × Option Value × Option Value × Option Value × Nat × Int32 × (Nat → Int32) × Nat) (fun q => 10 - q.1) (fun q => q.1 ≤ 10 ∧ q.2.2.2.2.2.2.2.2.2 = q.1 * 192 ∧ q.2.2.2.2.2.2.1 < 4096 ∧ ∀ x, x < q.2.2.2.2.2.2.2.2.2 → ¬ rz_ht R p m z x) (fun q => [some (.ref 13), some (.int (rz_mo z 4)), some (.int U), some (.int (Int32.ofNat q.1)), q.2.1, q.2.2.1, q.2.2.2.1, q.2.2.2.2.1, q.2.2.2.2.2.1]) (fun _ => []) (fun q => (rz_w (rz_up (rz_up (rz_up v 12 q.2.2.2.2.2.2.2.1) 15 (Int32.ofNat (l + rz_ct (rz_ch R p m) q.2.2.2.2.2.2.2.2.2))) 8 (Int32.ofNat q.2.2.2.2.2.2.1)) (rz_ua a 10 q.2.2.2.2.2.2.2.2.1) g)) ?_ (0, t4, t5, t6, t7, t8, L, c, f, N) ⟨Nat.zero_le _, by show N = 0 * 192; omega, hL, hno⟩
    clear hN hL hno
    clear t4 t5 t6 t7 t8 L c f N
    rintro ⟨k, t4, t5, t6, t7, t8, L, c, f, N⟩ ⟨hk, hN, hL, hno⟩ ih
    dsimp only at hk hN hL hno ih ⊢
    refine ev_ps 2 rfl (ev_ic (cd := .gt) rfl (fun h => ?_) (fun h => ?_))
    · have : 9 < k := rn_gt_t (k := 9) (by omega) (by omega) h
      have e : N = 1920 := by omega
      subst e
      exact ev_ps 1 rfl (ev_ret rfl rfl ⟨1920, L, c, f, Nat.le_refl _, hno, fun q => absurd q (by omega), rfl, hL, rfl⟩)
    · have hk' : k < 10 := by
        have : k ≤ 9 := rn_gt_f (k := 9) (by omega) (by omega) h
        omega
      have next : ∀ (t5 t6 t7 t8 : Option Value) (ch : Int32) (L : Nat) (c : Int32) (f : Nat → Int32) (N' : Nat), N' = N + 192 → L < 4096 → (∀ x, x < N' → ¬ rz_ht R p m z x) → rz_E xs xl 39 142 [some (.ref 13), some (.int (rz_mo z 4)), some (.int U), some (.int (Int32.ofNat k)), some (.int ch), t5, t6, t7, t8] [] (rz_w (rz_up (rz_up (rz_up v 12 c) 15 (Int32.ofNat (l + rz_ct (rz_ch R p m) N'))) 8 (Int32.ofNat L)) (rz_ua a 10 f) g) 0 0 (fun q w' => ∃ (j L : Nat) (c : Int32) (f : Nat → Int32), j ≤ 1920 ∧ (∀ i, i < j → ¬ rz_ht R p m z i) ∧ (j < 1920 → rz_ht R p m z j) ∧ q = .inl (some (.int (if j < 1920 then rz_pk (rz_cq j) else -2))) ∧ L < 4096 ∧ w' = (rz_w (rz_up (rz_up (rz_up v 12 c) 15 (Int32.ofNat (l + rz_ct (rz_ch R p m) (if j < 1920 then j + 1 else 1920)))) 8 (Int32.ofNat L)) (rz_ua a 10 f) g)) := fun t5 t6 t7 t8 ch L c f N' hN' hL hno => by
        have h9 := ih (k + 1, some (.int ch), t5, t6, t7, t8, L, c, f, N') ⟨by show k + 1 ≤ 10; omega, by show N' = (k + 1) * 192; omega, hL, hno⟩ (by show 10 - (k + 1) < 10 - k; omega)
        dsimp only at h9
        rw [← rz_succ k] at h9
        exact ev_ps 2 rfl h9
      refine ev_ps 2 rfl (ev_ic (cd := .gt) rfl (fun h => ?_) (fun h => ?_))
      · have h5 : 5 < k := rn_gt_t (k := 5) (by omega) (by omega) h
        refine ev_ps 4 rfl (Ld k U N hk' hN (fun t ht N' h1 h2 => ?_) (fun t5 t6 t7 t8 L c f N' => next t5 t6 t7 t8 U L c f N') _ _ _ _ _ _ _ rfl hL hno)
        rw [hU t ht]
        unfold rz_ch
        rw [if_neg (by omega), h2]
      · have h5 : k ≤ 5 := rn_gt_f (k := 5) (by omega) (by omega) h
        refine ev_ps 5 rfl (Ld k 15 N hk' hN (fun t ht N' h1 h2 => ?_) (fun t5 t6 t7 t8 L c f N' => next t5 t6 t7 t8 15 L c f N') _ _ _ _ _ _ _ rfl hL hno)
        have key : ∀ t, t < 16 → (((15 : Int32) >>> (Int32.ofNat t &&& 31)) &&& 1 = 1 ↔ t < 4) := by decide +kernel
        rw [key t ht]
        unfold rz_ch
        rw [if_pos (by omega), h2]
  exact ev_w (w2 := (rz_w (rz_up (rz_up (rz_up v 12 (v 12)) 15 (Int32.ofNat (l + rz_ct (rz_ch R p m) 0))) 8 (Int32.ofNat L0)) (rz_ua a 10 (a 10)) g)) (by
    rw [show Int32.ofNat (l + rz_ct (rz_ch R p m) 0) = v 15 from by rw [h15]; rfl, ← h8]; rfl) (Lo _ _ _ _ _ _ _ _ 0 rfl hL0 (fun x hx => absurd hx (Nat.not_lt_zero _)))
end RZY4
/-! the class, exactly: improving -/
section RZY5
variable {xs : Nat → Int32} {xl : Nat} {v : Nat → Int32} {a : Nat → Nat → Int32} {g : Nat → Int64} {R : Nat → rz_Q} {n : Nat}
theorem y_imprPutForRow {p m b r0 b0 : Nat} {q : rz_Q} (x : Int32) (hx : (b = 0 ∧ x = -1) ∨ (b = 1 ∧ x = rz_pk q ∧ rz_lg q ∧ q.1 ≤ 9)) (hbm : b ≤ m) (hm : m ≤ 3) (hv : v 0 = Int32.ofNat n) (hn : n ≤ 24) (hir : rz_ir R n p m) (hpc : rz_pc a R n) (hl : rz_lgs R n) (h13 : v 13 = Int32.ofNat r0) (h14 : v 14 = Int32.ofNat b0) : rz_C xs xl 44 [.ref 13, .ref 1, .int (Int32.ofNat p), .int (Int32.ofNat m), .int x] (rz_w v a g) (fun r w' => r = .inl (some (.int (Int32.ofNat b))) ∧ ∃ f f2 : Nat → Int32, w' = rz_w (rz_up (rz_up (rz_up v 13 (Int32.ofNat (r0 + 1))) 14 (Int32.ofNat (if b = 0 then b0 + 1 else b0))) 0 (Int32.ofNat (n - (m - b)))) (rz_ua (rz_ua a 0 f) 6 f2) g ∧ (∀ k, k < n - (m - b) → f k = rz_pk (rz_cu R p m b q k)) ∧ ∀ k, k ≤ n - (m - b) → f2 k = rz_S (rz_cu R p m b q) (n - (m - b)) k) := by
  refine ev_ps 6 rfl (ev_w (w2 := rz_w (rz_up (rz_up v 13 (Int32.ofNat (r0 + 1))) 14 (v 14)) a g) (by rw [← rz_succ r0, ← h13]; rfl) ?_)
  have hq2 : b ≠ 0 → rz_lg q ∧ q.1 ≤ 9 := fun h => hx.elim (fun z => absurd z.1 h) (fun z => z.2.2)
  have main : ∀ y : Int32, y = Int32.ofNat (if b = 0 then b0 + 1 else b0) → rz_E xs xl 44 26 [some (.ref 13), some (.ref 1), some (.int (Int32.ofNat p)), some (.int (Int32.ofNat m)), some (.int x), none] [] (rz_w (rz_up (rz_up v 13 (Int32.ofNat (r0 + 1))) 14 y) a g) 0 0 (fun r w' => r = .inl (some (.int (Int32.ofNat b))) ∧ ∃ f f2 : Nat → Int32, w' = rz_w (rz_up (rz_up (rz_up v 13 (Int32.ofNat (r0 + 1))) 14 (Int32.ofNat (if b = 0 then b0 + 1 else b0))) 0 (Int32.ofNat (n - (m - b)))) (rz_ua (rz_ua a 0 f) 6 f2) g ∧ (∀ k, k < n - (m - b) → f k = rz_pk (rz_cu R p m b q k)) ∧ ∀ k, k ≤ n - (m - b) → f2 k = rz_S (rz_cu R p m b q) (n - (m - b)) k) := by
    intro y hy
    subst hy
    refine ev_ps 4 rfl (ev_call (av := [_, _, _, _]) rfl rfl rfl rfl ⟨Nat.le_of_ble_eq_true rfl, rfl⟩ ⟨Nat.le_of_ble_eq_true rfl, Nat.le_of_ble_eq_true rfl⟩ (y_putForRow (v := rz_up (rz_up v 13 (Int32.ofNat (r0 + 1))) 14 (Int32.ofNat (if b = 0 then b0 + 1 else b0))) (q := q) x hx hbm hm hv hn hir hpc hl) ?_)
    rintro _ _ ⟨rfl, f, rfl, hf⟩
    refine ev_ps 4 rfl (ev_call (av := [_, _]) rfl rfl rfl rfl ⟨Nat.le_of_ble_eq_true rfl, rfl⟩ ⟨Nat.le_of_ble_eq_true rfl, Nat.le_of_ble_eq_true rfl⟩ (z_findFor_14 (v := rz_up (rz_up (rz_up v 13 (Int32.ofNat (r0 + 1))) 14 (Int32.ofNat (if b = 0 then b0 + 1 else b0))) 0 (Int32.ofNat (n - (m - b)))) (a := rz_ua a 0 f) (R := rz_cu R p m b q) (n := n - (m - b)) rfl (by omega) hf (rz_cu_lg hl hir hbm hq2)) ?_)
    rintro _ _ ⟨rfl, f2, rfl, hf2⟩
    exact ev_ps 1 rfl (ev_ret rfl rfl ⟨rfl, f, f2, rfl, hf, hf2⟩)
  refine ev_ps 2 rfl (ev_ic (cd := .ne) rfl (fun h => main _ ?_) (fun h => ?_))
  · have hb1 : b = 1 := hx.elim (fun z => absurd z.2 (rc_ne_t h)) (fun z => z.1)
    rw [hb1, if_neg (by decide)]; exact h14
  · have hb0 : b = 0 := hx.elim (fun z => z.1) (fun z => absurd (z.2.1.symm.trans (rc_ne_f h)) (rz_pk_ne z.2.2.1).1)
    refine ev_ps 6 rfl (ev_w (w2 := rz_w (rz_up (rz_up v 13 (Int32.ofNat (r0 + 1))) 14 (v 14 + Int32.ofInt 1)) a g) rfl (main _ ?_))
    rw [hb0, if_pos rfl, h14]; exact rz_succ b0
/-- the class holds this program and these counts -/
def rz_CC (v : Nat → Int32) (a : Nat → Nat → Int32) (R : Nat → rz_Q) (n r b l : Nat) : Prop := n ≤ 24 ∧ v 0 = Int32.ofNat n ∧ rz_pc a R n ∧ rz_lgs R n ∧ v 13 = Int32.ofNat r ∧ v 14 = Int32.ofNat b ∧ v 15 = Int32.ofNat l ∧ ∃ L, L < 4096 ∧ v 8 = Int32.ofNat L
/-- its machine is as it was -/
def rz_kc (v : Nat → Int32) (a : Nat → Nat → Int32) (v' : Nat → Int32) (a' : Nat → Nat → Int32) : Prop := v' 1 = v 1 ∧ v' 2 = v 2 ∧ v' 3 = v 3 ∧ v' 4 = v 4 ∧ a' 1 = a 1 ∧ a' 2 = a 2
theorem rz_kc.rf : rz_kc v a v a := ⟨rfl, rfl, rfl, rfl, rfl, rfl⟩
theorem rz_kc.tr {v1 v2 : Nat → Int32} {a1 a2 : Nat → Nat → Int32} (h : rz_kc v a v1 a1) (h2 : rz_kc v1 a1 v2 a2) : rz_kc v a v2 a2 := ⟨h2.1.trans h.1, h2.2.1.trans h.2.1, h2.2.2.1.trans h.2.2.1, h2.2.2.2.1.trans h.2.2.2.1, h2.2.2.2.2.1.trans h.2.2.2.2.1, h2.2.2.2.2.2.trans h.2.2.2.2.2⟩
theorem rz_kc.up {v1 : Nat → Int32} {a1 : Nat → Nat → Int32} {k : Nat} (h : rz_kc v a v1 a1) (hk : k = 0 ∨ 5 ≤ k) (x : Int32) : rz_kc v a (rz_up v1 k x) a1 := by
  have e : ∀ j, 1 ≤ j → j ≤ 4 → rz_up v1 k x j = v1 j := fun j h1 h2 => if_neg (by omega)
  unfold rz_kc
  rw [e 1 (by omega) (by omega), e 2 (by omega) (by omega), e 3 (by omega) (by omega), e 4 (by omega) (by omega)]
  exact h
theorem rz_kc.ua {v1 : Nat → Int32} {a1 : Nat → Nat → Int32} {k : Nat} (h : rz_kc v a v1 a1) (hk : k = 0 ∨ 3 ≤ k) (f : Nat → Int32) : rz_kc v a v1 (rz_ua a1 k f) := by
  have e : ∀ j, 1 ≤ j → j ≤ 2 → rz_ua a1 k f j = a1 j := fun j h1 h2 => if_neg (by omega)
  unfold rz_kc
  rw [e 1 (by omega) (by omega), e 2 (by omega) (by omega)]
  exact h
theorem rz_S14 {R : Nat → rz_Q} {n k : Nat} (hl : rz_lgs R n) : ∃ S, S < 16 ∧ rz_S R n k = Int32.ofNat S := by
  obtain ⟨i, hi, e, -⟩ := rz_14 (rz_lv14 hl k)
  exact ⟨i, hi, e⟩
theorem y_improveAt {p r b l : Nat} (hR : rz_CC v a R n r b l) (h6 : ∀ k, k ≤ n → a 6 k = rz_S R n k) (hp : p < n) : rz_C xs xl 22 [.ref 13, .ref 1, .int (Int32.ofNat p)] (rz_w v a g) (fun q w' => ∃ (v' : Nat → Int32) (a' : Nat → Nat → Int32), q = .inl (some (.int (Int32.ofNat (rz_nx p (rz_im R n p r b l).1)))) ∧ w' = rz_w v' a' g ∧ rz_cf v a v' a' ∧ rz_kc v a v' a' ∧ rz_CC v' a' (rz_im R n p r b l).2.1 (rz_im R n p r b l).2.2.1 (rz_im R n p r b l).2.2.2.1 (rz_im R n p r b l).2.2.2.2.1 (rz_im R n p r b l).2.2.2.2.2 ∧ ∀ k, k ≤ (rz_im R n p r b l).2.2.1 → a' 6 k = rz_S (rz_im R n p r b l).2.1 (rz_im R n p r b l).2.2.1 k) := by
  have hn := hR.1
  refine ev_ps 2 rfl ?_
  refine ev_loop (α := Nat × Option Value × Option Value × (Nat → Int32) × (Nat → Nat → Int32) × Nat) (fun q => q.1) (fun t => t.1 ≤ 3 ∧ rz_cf v a t.2.2.2.1 t.2.2.2.2.1 ∧ rz_kc v a t.2.2.2.1 t.2.2.2.2.1 ∧ rz_CC t.2.2.2.1 t.2.2.2.2.1 R n r b t.2.2.2.2.2 ∧ (∀ k, k ≤ n → t.2.2.2.2.1 6 k = rz_S R n k) ∧ rz_IM R n p 3 l = rz_IM R n p t.1 t.2.2.2.2.2) (fun q => [some (.ref 13), some (.ref 1), some (.int (Int32.ofNat p)), some (.int (Int32.ofNat q.1)), q.2.1, q.2.2.1]) (fun _ => []) (fun q => rz_w q.2.2.2.1 q.2.2.2.2.1 g) ?_ (3, none, none, v, a, l) ⟨Nat.le_refl _, rz_cf.rf, rz_kc.rf, hR, h6, rfl⟩
  rintro ⟨mm, t4, t5, v1, a1, lk⟩ ⟨hm, hf, hk, hR1, h61, hIM⟩ ih
  dsimp only at hm hf hk hR1 h61 hIM ih ⊢
  obtain ⟨-, hv1, hpc1, hl1, h13, h14, h15, L1, hL1, h8⟩ := hR1
  refine ev_ps 2 rfl (ev_ic (cd := .lt) rfl (fun h => ?_) (fun h => ?_))
  · have hm0 : mm = 0 := by have := rn_lt_t (k := 1) (by omega) (by omega) h; omega
    subst hm0
    have eim : rz_im R n p r b l = (-1, R, n, r, b, lk) := by unfold rz_im; rw [hIM]; rfl
    refine ev_ps 3 rfl (ev_ret rfl rfl ⟨v1, a1, ?_, rfl, hf, hk, by rw [eim]; exact ⟨hn, hv1, hpc1, hl1, h13, h14, h15, L1, hL1, h8⟩, by rw [eim]; exact h61⟩)
    rw [eim]
    show _ = Sum.inl (some (Value.int (Int32.ofNat (p + 1))))
    rw [← rz_succ p]; rfl
  · obtain ⟨k, rfl⟩ : ∃ k, mm = k + 1 := ⟨mm - 1, by have := rn_lt_f (k := 1) (by omega) (by omega) h; omega⟩
    have next : ∀ (t4 t5 : Option Value) (v2 : Nat → Int32) (a2 : Nat → Nat → Int32) (lk2 : Nat), rz_cf v a v2 a2 → rz_kc v a v2 a2 → rz_CC v2 a2 R n r b lk2 → (∀ k, k ≤ n → a2 6 k = rz_S R n k) → rz_IM R n p 3 l = rz_IM R n p k lk2 → rz_E xs xl 22 90 [some (.ref 13), some (.ref 1), some (.int (Int32.ofNat p)), some (.int (Int32.ofNat (k + 1))), t4, t5] [] (rz_w v2 a2 g) 0 0 (fun q w' => ∃ (v' : Nat → Int32) (a' : Nat → Nat → Int32), q = .inl (some (.int (Int32.ofNat (rz_nx p (rz_im R n p r b l).1)))) ∧ w' = rz_w v' a' g ∧ rz_cf v a v' a' ∧ rz_kc v a v' a' ∧ rz_CC v' a' (rz_im R n p r b l).2.1 (rz_im R n p r b l).2.2.1 (rz_im R n p r b l).2.2.2.1 (rz_im R n p r b l).2.2.2.2.1 (rz_im R n p r b l).2.2.2.2.2 ∧ ∀ k, k ≤ (rz_im R n p r b l).2.2.1 → a' 6 k = rz_S (rz_im R n p r b l).2.1 (rz_im R n p r b l).2.2.1 k) := by
      intro t4 t5 v2 a2 lk2 hf2 hk2 hR2 h62 hIM2
      have h9 := ih (k, t4, t5, v2, a2, lk2) ⟨by show k ≤ 3; omega, hf2, hk2, hR2, h62, hIM2⟩ (by show k < k + 1; omega)
      dsimp only at h9
      rw [show Int32.ofNat k = Int32.ofNat (k + 1) + Int32.ofInt (-1) from by
        rw [← rz_succ k]
        exact (Int32.add_sub_cancel (Int32.ofNat k) 1).symm.trans (Int32.sub_eq_add_neg _ _)] at h9
      exact ev_ps 2 rfl h9
    refine ev_ps 3 rfl (ev_call (av := [_, _, _]) rfl rfl rfl rfl ⟨Nat.le_of_ble_eq_true rfl, rfl⟩ ⟨Nat.le_of_ble_eq_true rfl, Nat.le_of_ble_eq_true rfl⟩ (y_hasRow hv1 hn (by omega) hm (by omega) hpc1 hl1) ?_)
    rintro _ _ ⟨⟨u, hu, hui, rfl⟩, rfl⟩
    refine ev_if (cd := .eq) rfl (fun h1 => ?_) (fun h1 => ?_)
    · have hir : ¬ rz_ir R n p (k + 1) := fun q => absurd ((rc_eq_t h1).symm.trans (hui.mpr q)) (by decide)
      exact next _ _ _ _ _ hf hk ⟨hn, hv1, hpc1, hl1, h13, h14, h15, L1, hL1, h8⟩ h61 (hIM.trans (rz_IM_no hir))
    have hir : rz_ir R n p (k + 1) := hui.mp (hu.resolve_left (rc_eq_f h1))
    have hpm := hir.1
    refine ev_ps 5 rfl (ev_call (av := [_, _, _, _]) rfl rfl rfl rfl ⟨Nat.le_of_ble_eq_true rfl, rfl⟩ ⟨Nat.le_of_ble_eq_true rfl, Nat.le_of_ble_eq_true rfl⟩ (y_takeFrom_21 (R := R) hm hpm hn hpc1 hl1 hir.2.1) ?_)
    rintro _ _ ⟨rfl, f, rfl, hrc⟩
    refine ev_ps 7 rfl ?_
    refine ev_call (av := [.ref 14, .int (Int32.ofNat (p + (k + 1)))]) rfl (by rw [← rz_add p (k + 1)]; rfl) rfl rfl ⟨Nat.le_of_ble_eq_true rfl, rfl⟩ ⟨Nat.le_of_ble_eq_true rfl, Nat.le_of_ble_eq_true rfl⟩ (z_before_14 (by omega)) ?_
    rintro _ _ ⟨rfl, rfl⟩
    rw [show rz_ua a1 9 f 6 (p + (k + 1)) = rz_S R n (p + (k + 1)) from h61 _ (by omega)]
    have hz := rz_S14 (k := p + (k + 1)) hl1
    refine ev_call (av := [_]) rfl rfl rfl rfl ⟨Nat.le_of_ble_eq_true rfl, rfl⟩ ⟨Nat.le_of_ble_eq_true rfl, Nat.le_of_ble_eq_true rfl⟩ (y_maskOf _) ?_
    rintro _ _ ⟨rfl, rfl⟩
    refine ev_ps 3 rfl (ev_call (av := [_, _]) rfl rfl rfl rfl ⟨Nat.le_of_ble_eq_true rfl, rfl⟩ ⟨Nat.le_of_ble_eq_true rfl, Nat.le_of_ble_eq_true rfl⟩ (y_nothingDoes (v := rz_up v1 11 (Int32.ofNat (k + 1))) (a := rz_ua a1 9 f) (R := R) (p := p) hz rfl hm h8 hL1 h15 hrc) ?_)
    rintro _ _ ⟨⟨u4, hu4, hui4, rfl⟩, L2, hL2, rfl⟩
    have fin : ∀ (c : Nat) (q : rz_Q) (t : Int32) (v2 : Nat → Int32) (a2 : Nat → Nat → Int32) (lk2 : Nat), rz_cf v a v2 a2 → rz_kc v a v2 a2 → rz_CC v2 a2 R n r b lk2 → ((c = 0 ∧ t = -1) ∨ (c = 1 ∧ t = rz_pk q ∧ rz_lg q ∧ q.1 ≤ 9)) → rz_im R n p r b l = (Int32.ofNat c, rz_cu R p (k + 1) c q, n - (k + 1 - c), r + 1, (if c = 0 then b + 1 else b), lk2) → rz_E xs xl 22 71 [some (.ref 13), some (.ref 1), some (.int (Int32.ofNat p)), some (.int (Int32.ofNat (k + 1))), some (.int t), some (.int (rz_mo (rz_S R n (p + (k + 1))) 4))] [] (rz_w v2 a2 g) 0 0 (fun q w' => ∃ (v' : Nat → Int32) (a' : Nat → Nat → Int32), q = .inl (some (.int (Int32.ofNat (rz_nx p (rz_im R n p r b l).1)))) ∧ w' = rz_w v' a' g ∧ rz_cf v a v' a' ∧ rz_kc v a v' a' ∧ rz_CC v' a' (rz_im R n p r b l).2.1 (rz_im R n p r b l).2.2.1 (rz_im R n p r b l).2.2.2.1 (rz_im R n p r b l).2.2.2.2.1 (rz_im R n p r b l).2.2.2.2.2 ∧ ∀ k, k ≤ (rz_im R n p r b l).2.2.1 → a' 6 k = rz_S (rz_im R n p r b l).2.1 (rz_im R n p r b l).2.2.1 k) := by
      intro c q t v2 a2 lk2 hf2 hk2 hR2 hq eim
      obtain ⟨-, hv2, hpc2, hl2, h132, h142, h152, L2, hL2, h82⟩ := hR2
      have hc1 : c ≤ 1 := hq.elim (fun z => by omega) (fun z => by omega)
      refine ev_ps 2 rfl (ev_ic (cd := .eq) rfl (fun h => ?_) (fun h => ?_))
      · have ht := rc_eq_t h
        exact hq.elim (fun z => absurd (z.2.symm.trans ht) (show ¬ (-1 : Int32) = -2 by decide)) (fun z => absurd (z.2.1.symm.trans ht) (rz_pk_ne z.2.2.1).2)
      refine ev_ps 6 rfl (ev_call (av := [_, _, _, _, _]) rfl rfl rfl rfl ⟨Nat.le_of_ble_eq_true rfl, rfl⟩ ⟨Nat.le_of_ble_eq_true rfl, Nat.le_of_ble_eq_true rfl⟩ (y_imprPutForRow (q := q) t hq (by omega) hm hv2 hn hir hpc2 hl2 h132 h142) ?_)
      rintro _ _ ⟨rfl, f3, f4, rfl, hf3, hf4⟩
      refine ev_ps 1 rfl (ev_ret rfl rfl ⟨_, _, ?_, rfl, (((((hf2.up (by decide) _).up (by decide) _).up (by decide) _).ua (by decide) f3).ua (by decide) f4), (((((hk2.up (by decide) _).up (by decide) _).up (by decide) _).ua (by decide) f3).ua (by decide) f4), ?_, ?_⟩)
      · rw [eim]
        show _ = Sum.inl (some (Value.int (Int32.ofNat (rz_nx p (Int32.ofNat c)))))
        have e : rz_nx p (Int32.ofNat c) = p + c := by
          unfold rz_nx
          rcases (show c = 0 ∨ c = 1 by omega) with rfl | rfl
          · rfl
          · rfl
        rw [e, ← rz_add]
      · rw [eim]
        refine ⟨by show n - (k + 1 - c) ≤ 24; omega, rfl, hf3, rz_cu_lg hl2 hir (by omega) (fun h => hq.elim (fun z => absurd z.1 h) (fun z => z.2.2)), rfl, rfl, h152, L2, hL2, h82⟩
      · rw [eim]; exact hf4
    have skip : ∀ (t : Int32) (v2 : Nat → Int32) (a2 : Nat → Nat → Int32) (lk2 : Nat), t = -2 → rz_cf v a v2 a2 → rz_kc v a v2 a2 → rz_CC v2 a2 R n r b lk2 → (∀ k, k ≤ n → a2 6 k = rz_S R n k) → rz_IM R n p 3 l = rz_IM R n p k lk2 → rz_E xs xl 22 71 [some (.ref 13), some (.ref 1), some (.int (Int32.ofNat p)), some (.int (Int32.ofNat (k + 1))), some (.int t), some (.int (rz_mo (rz_S R n (p + (k + 1))) 4))] [] (rz_w v2 a2 g) 0 0 (fun q w' => ∃ (v' : Nat → Int32) (a' : Nat → Nat → Int32), q = .inl (some (.int (Int32.ofNat (rz_nx p (rz_im R n p r b l).1)))) ∧ w' = rz_w v' a' g ∧ rz_cf v a v' a' ∧ rz_kc v a v' a' ∧ rz_CC v' a' (rz_im R n p r b l).2.1 (rz_im R n p r b l).2.2.1 (rz_im R n p r b l).2.2.2.1 (rz_im R n p r b l).2.2.2.2.1 (rz_im R n p r b l).2.2.2.2.2 ∧ ∀ k, k ≤ (rz_im R n p r b l).2.2.1 → a' 6 k = rz_S (rz_im R n p r b l).2.1 (rz_im R n p r b l).2.2.1 k) := by
      intro t v2 a2 lk2 ht h1 h2 h3 h4 h5
      subst ht
      refine ev_ps 2 rfl (ev_ic (cd := .eq) rfl (fun h => next _ _ _ _ _ h1 h2 h3 h4 h5) (fun h => absurd rfl (rc_eq_f h)))
    have hf3 : rz_cf v a (rz_up (rz_up (rz_up (rz_up v1 11 (Int32.ofNat (k + 1))) 12 0) 15 (Int32.ofNat (lk + 1))) 8 (Int32.ofNat L2)) (rz_ua a1 9 f) := ((((hf.up (by decide) _).up (by decide) _).up (by decide) _).up (by decide) _).ua (by decide) f
    have hk3 : rz_kc v a (rz_up (rz_up (rz_up (rz_up v1 11 (Int32.ofNat (k + 1))) 12 0) 15 (Int32.ofNat (lk + 1))) 8 (Int32.ofNat L2)) (rz_ua a1 9 f) := ((((hk.up (by decide) _).up (by decide) _).up (by decide) _).up (by decide) _).ua (by decide) f
    have hR3 : rz_CC (rz_up (rz_up (rz_up (rz_up v1 11 (Int32.ofNat (k + 1))) 12 0) 15 (Int32.ofNat (lk + 1))) 8 (Int32.ofNat L2)) (rz_ua a1 9 f) R n r b (lk + 1) := ⟨hn, hv1, hpc1, hl1, h13, h14, rfl, L2, hL2, rfl⟩
    refine ev_if (cd := .ne) rfl (fun h2 => ?_) (fun h2 => ?_)
    · have hnd : rz_nd R p (k + 1) (rz_S R n (p + (k + 1))) := hui4.mp (hu4.resolve_left (rc_ne_t h2))
      refine fin 0 (0, 0, 0, 0) _ _ _ _ hf3 hk3 hR3 (Or.inl ⟨rfl, rfl⟩) ?_
      unfold rz_im
      rw [hIM, rz_IM_nd hir hnd]
      rfl
    · have hnn : ¬ rz_nd R p (k + 1) (rz_S R n (p + (k + 1))) := fun q => absurd ((rc_ne_f h2).symm.trans (hui4.mpr q)) (by decide)
      refine ev_ps 2 rfl (ev_ic (cd := .le) rfl (fun h3 => ?_) (fun h3 => ?_))
      · have hk1 : ¬ 1 < k + 1 := by have := rn_le_t (k := 1) (by omega) (by omega) h3; omega
        exact ev_ps 2 rfl (skip _ _ _ _ rfl hf3 hk3 hR3 h61 (hIM.trans (rz_IM_1 hir hnn hk1)))
      · have hk1 : 1 < k + 1 := rn_le_f (k := 1) (by omega) (by omega) h3
        refine ev_ps 2 rfl (ev_call (av := [_, _]) rfl rfl rfl rfl ⟨Nat.le_of_ble_eq_true rfl, rfl⟩ ⟨Nat.le_of_ble_eq_true rfl, Nat.le_of_ble_eq_true rfl⟩ (y_firstInstruction (v := rz_up (rz_up (rz_up (rz_up v1 11 (Int32.ofNat (k + 1))) 12 0) 15 (Int32.ofNat (lk + 1))) 8 (Int32.ofNat L2)) (a := rz_ua a1 9 f) (R := R) (p := p) (m := k + 1) (l := lk + 1) hz rfl hm rfl hL2 rfl hrc) ?_)
        rintro _ _ ⟨j, L3, c3, f5, hj, hno, hht, rfl, hL3, rfl⟩
        have hjx : rz_jx R p (k + 1) (rz_S R n (p + (k + 1))) = j := rz_fi_eq hno hht hj
        have hf4 := ((((hf3.up (k := 12) (by decide) c3).up (k := 15) (by decide) (Int32.ofNat (lk + 1 + rz_ct (rz_ch R p (k + 1)) (if j < 1920 then j + 1 else 1920)))).up (k := 8) (by decide) (Int32.ofNat L3)).ua (k := 10) (by decide) f5)
        have hk4 := ((((hk3.up (k := 12) (by decide) c3).up (k := 15) (by decide) (Int32.ofNat (lk + 1 + rz_ct (rz_ch R p (k + 1)) (if j < 1920 then j + 1 else 1920)))).up (k := 8) (by decide) (Int32.ofNat L3)).ua (k := 10) (by decide) f5)
        by_cases hjl : j < 1920
        · rw [if_pos hjl] at hf4 hk4
          rw [if_pos hjl, if_pos hjl]
          refine ev_ps 2 rfl (fin 1 (rz_cq j) _ _ _ _ hf4 hk4 ⟨hn, hv1, hpc1, hl1, h13, h14, rfl, L3, hL3, rfl⟩ (Or.inr ⟨rfl, rfl, rz_ch_lg hjl (hht hjl).1, by show j / 192 ≤ 9; omega⟩) ?_)
          unfold rz_im
          rw [hIM, rz_IM_f hir hnn hk1 hjl hjx]
          rfl
        · rw [if_neg hjl] at hf4 hk4
          rw [if_neg hjl, if_neg hjl]
          exact ev_ps 2 rfl (skip _ _ _ _ rfl hf4 hk4 ⟨hn, hv1, hpc1, hl1, h13, h14, rfl, L3, hL3, rfl⟩ h61 (hIM.trans (rz_IM_g hir hnn hk1 hjl hjx)))
theorem y_improveProgram {r b l : Nat} (hR : rz_CC v a R n r b l) : rz_C xs xl 9 [.ref 13, .ref 1] (rz_w v a g) (fun q w' => ∃ (v' : Nat → Int32) (a' : Nat → Nat → Int32), q = .inl (some (.int (Int32.ofNat n - Int32.ofNat (rz_IP 24 R n 0 r b l).2.1))) ∧ w' = rz_w v' a' g ∧ rz_cf v a v' a' ∧ rz_kc v a v' a' ∧ rz_CC v' a' (rz_IP 24 R n 0 r b l).1 (rz_IP 24 R n 0 r b l).2.1 (rz_IP 24 R n 0 r b l).2.2.1 (rz_IP 24 R n 0 r b l).2.2.2.1 (rz_IP 24 R n 0 r b l).2.2.2.2) := by
  have hn := hR.1
  refine ev_ps 1 rfl (ev_call (av := [_]) rfl rfl rfl rfl ⟨Nat.le_of_ble_eq_true rfl, rfl⟩ ⟨Nat.le_of_ble_eq_true rfl, Nat.le_of_ble_eq_true rfl⟩ (c_length) ?_)
  rintro _ _ ⟨rfl, rfl⟩
  refine ev_ps 4 rfl (ev_call (av := [_, _]) rfl rfl rfl rfl ⟨Nat.le_of_ble_eq_true rfl, rfl⟩ ⟨Nat.le_of_ble_eq_true rfl, Nat.le_of_ble_eq_true rfl⟩ (z_findFor_14 hR.2.1 hn hR.2.2.1 hR.2.2.2.1) ?_)
  rintro _ _ ⟨rfl, f, rfl, hf0⟩
  refine ev_ps 4 rfl ?_
  refine ev_loop (α := Nat × Nat × (Nat → Int32) × (Nat → Nat → Int32) × (Nat → rz_Q) × Nat × Nat × Nat × Nat) (fun q => 24 - q.1) (fun t => t.1 ≤ 24 ∧ t.2.1 < 2 ^ 30 ∧ rz_cf v a t.2.2.1 t.2.2.2.1 ∧ rz_kc v a t.2.2.1 t.2.2.2.1 ∧ rz_CC t.2.2.1 t.2.2.2.1 t.2.2.2.2.1 t.2.2.2.2.2.1 t.2.2.2.2.2.2.1 t.2.2.2.2.2.2.2.1 t.2.2.2.2.2.2.2.2 ∧ (∀ k, k ≤ t.2.2.2.2.2.1 → t.2.2.2.1 6 k = rz_S t.2.2.2.2.1 t.2.2.2.2.2.1 k) ∧ rz_IP 24 R n 0 r b l = rz_IP (24 - t.1) t.2.2.2.2.1 t.2.2.2.2.2.1 t.2.1 t.2.2.2.2.2.2.1 t.2.2.2.2.2.2.2.1 t.2.2.2.2.2.2.2.2) (fun q => [some (.ref 13), some (.ref 1), some (.int (v 0)), some (.int (Int32.ofNat q.2.1)), some (.int (Int32.ofNat q.1))]) (fun _ => []) (fun q => rz_w q.2.2.1 q.2.2.2.1 g) ?_ (0, 0, v, rz_ua a 6 f, R, n, r, b, l) ⟨Nat.zero_le _, by show 0 < 2 ^ 30; decide, rz_cf.rf.ua (by decide) f, rz_kc.rf.ua (by decide) f, hR, hf0, rfl⟩
  rintro ⟨k, p, v1, a1, R1, n1, r1, b1, l1⟩ ⟨hk, hp, hf, hkc, hR1, h6, hIP⟩ ih
  dsimp only at hk hp hf hkc hR1 h6 hIP ih ⊢
  have fin : rz_IP 24 R n 0 r b l = (R1, n1, r1, b1, l1) → rz_E xs xl 9 46 [some (.ref 13), some (.ref 1), some (.int (v 0)), some (.int (Int32.ofNat p)), some (.int (Int32.ofNat k))] [] (rz_w v1 a1 g) 0 0 (fun q w' => ∃ (v' : Nat → Int32) (a' : Nat → Nat → Int32), q = .inl (some (.int (Int32.ofNat n - Int32.ofNat (rz_IP 24 R n 0 r b l).2.1))) ∧ w' = rz_w v' a' g ∧ rz_cf v a v' a' ∧ rz_kc v a v' a' ∧ rz_CC v' a' (rz_IP 24 R n 0 r b l).1 (rz_IP 24 R n 0 r b l).2.1 (rz_IP 24 R n 0 r b l).2.2.1 (rz_IP 24 R n 0 r b l).2.2.2.1 (rz_IP 24 R n 0 r b l).2.2.2.2) := by
    intro e
    refine ev_ps 2 rfl (ev_call (av := [_]) rfl rfl rfl rfl ⟨Nat.le_of_ble_eq_true rfl, rfl⟩ ⟨Nat.le_of_ble_eq_true rfl, Nat.le_of_ble_eq_true rfl⟩ (c_length) ?_)
    rintro _ _ ⟨rfl, rfl⟩
    refine ev_ps 1 rfl (ev_ret rfl rfl ⟨v1, a1, ?_, rfl, hf, hkc, ?_⟩)
    · rw [e, hR.2.1, hR1.2.1]
    · rw [e]; exact hR1
  refine ev_ps 2 rfl (ev_ic (cd := .ge) rfl (fun h => ?_) (fun h => ?_))
  · have hk4 : 24 ≤ k := rn_ge_t (k := 24) (by omega) (by omega) h
    refine fin ?_
    rw [hIP, show 24 - k = 0 by omega]; rfl
  have hk' : k < 24 := rn_ge_f (k := 24) (by omega) (by omega) h
  refine ev_ps 2 rfl (ev_call (av := [_, _]) rfl rfl rfl rfl ⟨Nat.le_of_ble_eq_true rfl, rfl⟩ ⟨Nat.le_of_ble_eq_true rfl, Nat.le_of_ble_eq_true rfl⟩ (y_has _) ?_)
  rintro _ _ ⟨⟨u, hu, hui, rfl⟩, rfl⟩
  refine ev_if (cd := .eq) rfl (fun h1 => ?_) (fun h1 => ?_)
  · have hno : ¬ p < n1 := fun q => absurd ((rc_eq_t h1).symm.trans (hui.mpr ⟨fun z => absurd ((rz_lt_iff (k := 0) (by omega) (by omega)).mp z) (by omega), by rw [hR1.2.1]; exact (rz_lt_iff (by omega) (by have := hR1.1; omega)).mpr q⟩)) (by decide)
    exact fin (hIP.trans (rz_IP_end (by omega)))
  have hyes : p < n1 := by
    have h := (hui.mp (hu.resolve_left (rc_eq_f h1))).2
    rw [hR1.2.1] at h
    exact (rz_lt_iff (by omega) (by have := hR1.1; omega)).mp h
  refine ev_ps 3 rfl (ev_call (av := [_, _, _]) rfl rfl rfl rfl ⟨Nat.le_of_ble_eq_true rfl, rfl⟩ ⟨Nat.le_of_ble_eq_true rfl, Nat.le_of_ble_eq_true rfl⟩ (y_improveAt hR1 h6 hyes) ?_)
  rintro _ _ ⟨v2, a2, rfl, rfl, hf2, hk2, hR2, h62⟩
  rw [show 24 - k = (24 - (k + 1)) + 1 by omega, rz_IP_step hyes] at hIP
  have h9 := ih (k + 1, rz_nx p (rz_im R1 n1 p r1 b1 l1).1, v2, a2, _, _, _, _, _) ⟨by show k + 1 ≤ 24; omega, by
    show rz_nx p (rz_im R1 n1 p r1 b1 l1).1 < 2 ^ 30
    have := hR1.1
    unfold rz_nx; split <;> omega, hf.tr hf2, hkc.tr hk2, hR2, h62, hIP⟩ (by show 24 - (k + 1) < 24 - k; omega)
  dsimp only at h9
  rw [← rz_succ k] at h9
  exact ev_ps 3 rfl h9
end RZY5
