/-! the class, exactly: the program -/
section RZY2
variable {xs : Nat → Int32} {xl : Nat} {v : Nat → Int32} {a : Nat → Nat → Int32} {g : Nat → Int64} {R : Nat → rz_Q} {n : Nat}
theorem y_codeAt {k : Nat} (hk : k < 24) : rz_C xs xl 13 [.ref 1, .int (Int32.ofNat k)] (rz_w v a g) (fun r w' => r = .inl (some (.int (a 0 k))) ∧ w' = rz_w v a g) := by
  refine ev_ps 3 rfl (ev_ald rfl rfl (rz_in hk (by decide)) ?_)
  exact ev_ret rfl rfl ⟨by rw [rz_clamp (by omega)], rfl⟩
theorem y_has (x : Int32) : rz_C xs xl 21 [.ref 1, .int x] (rz_w v a g) (rz_bx (rz_w v a g) (¬ x < 0 ∧ x < v 0)) := by
  refine ev_ps 1 rfl (ev_if (cd := .lt) rfl (fun h => ?_) (fun h => ?_))
  · exact ev_ps 1 rfl (ev_ret rfl rfl (rz_bx0 (fun q => q.1 (rc_lt_t h))))
  · refine ev_ps 3 rfl (ev_ic (cd := .ge) rfl (fun h1 => ?_) (fun h1 => ?_))
    · exact ev_ps 1 rfl (ev_ret rfl rfl (rz_bx0 (fun q => Int32.not_lt.mpr (rc_ge_t h1) q.2)))
    · exact ev_ps 2 rfl (ev_ret rfl rfl (rz_bx1 ⟨rc_lt_f h, Int32.not_le.mp (rc_ge_f h1)⟩))
theorem y_hasAll {p m : Nat} (hv : v 0 = Int32.ofNat n) (hn : n ≤ 24) (hp : p ≤ 24) (hm : m ≤ 3) (hm1 : 1 ≤ m) : rz_C xs xl 24 [.ref 1, .int (Int32.ofNat p), .int (Int32.ofNat m)] (rz_w v a g) (rz_bx (rz_w v a g) (p + m ≤ n)) := by
  refine ev_ps 1 rfl (ev_if (cd := .eq) rfl (fun h => ?_) (fun h => ?_))
  · have := (rz_eq_iff (k := 0) (by omega) (by omega)).mp (rc_eq_t h)
    omega
  · refine ev_ps 1 rfl (ev_if (cd := .lt) rfl (fun h1 => ?_) (fun h1 => ?_))
    · exact absurd (rn_lt_t (k := 0) (by omega) (by omega) h1) (by omega)
    · refine ev_ps 5 rfl (ev_ic (cd := .gt) rfl (fun h2 => ?_) (fun h2 => ?_))
      · rw [hv] at h2
        refine ev_ps 1 rfl (ev_ret rfl rfl (rz_bx0 (fun hle => ?_)))
        rw [rz_sub (by omega)] at h2
        exact absurd (rn_gt_t (by omega) (by omega) h2) (by omega)
      · rw [hv] at h2
        refine ev_ps 2 rfl (ev_ret rfl rfl (rz_bx1 ?_))
        by_cases hmn : m ≤ n
        · rw [rz_sub hmn] at h2
          have := rn_gt_f (by omega) (by omega) h2
          omega
        · exfalso
          apply rc_gt_f h2
          have hneg : Int32.ofNat n - Int32.ofNat m < 0 := by
            have key : ∀ m, m < 4 → ∀ n, n < 4 → n < m → Int32.ofNat n - Int32.ofNat m < 0 := by decide +kernel
            exact key m (by omega) n (by omega) (by omega)
          rw [Int32.lt_iff_toInt_lt] at hneg ⊢
          rw [rz_toInt (by omega)]
          have h0 : (0 : Int32).toInt = 0 := rfl
          omega
theorem y_allPlain {p m : Nat} (hpm : p + m ≤ n) (hn : n ≤ 24) (hpc : rz_pc a R n) (hl : rz_lgs R n) : rz_C xs xl 25 [.ref 1, .int (Int32.ofNat p), .int (Int32.ofNat m)] (rz_w v a g) (rz_bx (rz_w v a g) (rz_pl R p m)) := by
  refine ev_ps 2 rfl ?_
  refine ev_loop (α := Nat) (fun r => m - r) (fun r => r ≤ m ∧ ∀ k, p ≤ k → k < p + r → (R k).1 ≤ 9) (fun r => [some (.ref 1), some (.int (Int32.ofNat p)), some (.int (Int32.ofNat m)), some (.int (Int32.ofNat r))]) (fun _ => []) (fun _ => rz_w v a g) ?_ 0 ⟨Nat.zero_le _, fun k h1 h2 => absurd h2 (by omega)⟩
  rintro k ⟨hk, hall⟩ ih
  refine ev_ps 2 rfl (ev_ic (cd := .ge) rfl (fun h => ?_) (fun h => ?_))
  · have hkm : m ≤ k := rn_ge_t (by omega) (by omega) h
    exact ev_ps 1 rfl (ev_ret rfl rfl (rz_bx1 (fun j h1 h2 => hall j h1 (by omega))))
  · have hk' : k < m := rn_ge_f (by omega) (by omega) h
    refine ev_ps 5 rfl (ev_ald rfl rfl (by rw [rz_add]; exact rz_in (by omega) (by decide)) ?_)
    rw [rz_add, rz_clamp (k := p + k) (by omega), hpc (p + k) (by omega)]
    refine ev_call (av := [_]) rfl rfl rfl rfl ⟨Nat.le_of_ble_eq_true rfl, rfl⟩ ⟨Nat.le_of_ble_eq_true rfl, Nat.le_of_ble_eq_true rfl⟩ (x_isPlain (hl (p + k) (by omega))) ?_
    rintro _ _ ⟨⟨u, hu, hui, rfl⟩, rfl⟩
    refine ev_if (cd := .ne) rfl (fun h1 => ?_) (fun h1 => ?_)
    · have h2 : (R (p + k)).1 ≤ 9 := hui.mp (hu.resolve_left (rc_ne_t h1))
      have h9 := ih (k + 1) ⟨by omega, fun j j1 j2 => by
        by_cases hjk : j = p + k
        · rw [hjk]; exact h2
        · exact hall j j1 (by omega)⟩ (by omega)
      rw [← rz_succ k] at h9
      exact ev_ps 2 rfl h9
    · have h2 : ¬ (R (p + k)).1 ≤ 9 := fun z => absurd ((rc_ne_f h1).symm.trans (hui.mpr z)) (by decide)
      exact ev_ps 1 rfl (ev_ret rfl rfl (rz_bx0 (fun z => h2 (z (p + k) (by omega) (by omega)))))
theorem y_beginsBlock {p : Nat} (hv : v 0 = Int32.ofNat n) (hn : n ≤ 24) (hp : p ≤ n) (hpc : rz_pc a R n) (hl : rz_lgs R n) : rz_C xs xl 27 [.ref 1, .int (Int32.ofNat p)] (rz_w v a g) (rz_bx (rz_w v a g) (rz_bn R n p)) := by
  have main : ¬ (p = 0 ∨ 12 ≤ (R (p - 1)).1) → rz_E xs xl 27 20 [some (.ref 1), some (.int (Int32.ofNat p)), none] [] (rz_w v a g) 0 0 (rz_bx (rz_w v a g) (rz_bn R n p)) := by
    intro hno
    refine ev_ps 2 rfl ?_
    refine ev_loop (α := Nat) (fun r => n - r) (fun r => r ≤ n ∧ ∀ k, k < r → ¬ (12 ≤ (R k).1 ∧ (R k).1 ≤ 14 ∧ (R k).2.2.2 = p)) (fun r => [some (.ref 1), some (.int (Int32.ofNat p)), some (.int (Int32.ofNat r))]) (fun _ => []) (fun _ => rz_w v a g) ?_ 0 ⟨Nat.zero_le _, fun k h2 => absurd h2 (by omega)⟩
    rintro k ⟨hk, hall⟩ ih
    refine ev_ps 3 rfl (ev_ic (cd := .ge) rfl (fun h => ?_) (fun h => ?_))
    · rw [hv] at h
      have hkn : n ≤ k := rn_ge_t (by omega) (by omega) h
      refine ev_ps 1 rfl (ev_ret rfl rfl (rz_bx0 (fun z => ?_)))
      rcases z with z | z | ⟨j, hj, z⟩
      · exact hno (Or.inl z)
      · exact hno (Or.inr z)
      · exact hall j (by omega) z
    · rw [hv] at h
      have hk' : k < n := rn_ge_f (by omega) (by omega) h
      have hlk := hl k hk'
      have hin : ¬ (Int32.ofNat k < 0 ∨ 24 ≤ (Int32.ofNat k).toNatClampNeg) := rz_in (by omega) (by decide)
      have e := rz_clamp (k := k) (by omega)
      have next : ¬ (12 ≤ (R k).1 ∧ (R k).1 ≤ 14 ∧ (R k).2.2.2 = p) → rz_E xs xl 27 57 [some (.ref 1), some (.int (Int32.ofNat p)), some (.int (Int32.ofNat k))] [] (rz_w v a g) 0 0 (rz_bx (rz_w v a g) (rz_bn R n p)) := fun hnk => by
        have h9 := ih (k + 1) ⟨by omega, fun j hj => by
          by_cases hjk : j = k
          · rw [hjk]; exact hnk
          · exact hall j (by omega)⟩ (by omega)
        rw [← rz_succ k] at h9
        exact ev_ps 2 rfl h9
      refine ev_ps 3 rfl (ev_ald rfl rfl hin ?_)
      rw [e, hpc k hk']
      refine ev_call (av := [_]) rfl rfl rfl rfl ⟨Nat.le_of_ble_eq_true rfl, rfl⟩ ⟨Nat.le_of_ble_eq_true rfl, Nat.le_of_ble_eq_true rfl⟩ (x_hasTarget hlk) ?_
      rintro _ _ ⟨⟨u, hu, hui, rfl⟩, rfl⟩
      refine ev_if (cd := .eq) rfl (fun h1 => ?_) (fun h1 => ?_)
      · exact next (fun z => absurd ((rc_eq_t h1).symm.trans (hui.mpr ⟨z.1, z.2.1⟩)) (by decide))
      · have hT := hui.mp (hu.resolve_left (rc_eq_f h1))
        refine ev_ps 3 rfl (ev_ald rfl rfl hin ?_)
        rw [e, hpc k hk']
        refine ev_call (av := [_]) rfl rfl rfl rfl ⟨Nat.le_of_ble_eq_true rfl, rfl⟩ ⟨Nat.le_of_ble_eq_true rfl, Nat.le_of_ble_eq_true rfl⟩ (x_t hlk) ?_
        rintro _ _ ⟨rfl, rfl⟩
        refine ev_ps 1 rfl (ev_ic (cd := .ne) rfl (fun h2 => ?_) (fun h2 => ?_))
        · exact next (fun z => rc_ne_t h2 (by rw [z.2.2]))
        · have h3 : (R k).2.2.2 = p := (rz_eq_iff (by have := hlk.2.2.2.1; omega) (by omega)).mp (rc_ne_f h2)
          exact ev_ps 1 rfl (ev_ret rfl rfl (rz_bx1 (Or.inr (Or.inr ⟨k, hk', hT.1, hT.2, h3⟩))))
  refine ev_ps 1 rfl (ev_if (cd := .eq) rfl (fun h => ?_) (fun h => ?_))
  · have h0 : p = 0 := (rz_eq_iff (k := 0) (by omega) (by omega)).mp (rc_eq_t h)
    exact ev_ps 1 rfl (ev_ret rfl rfl (rz_bx1 (Or.inl h0)))
  · have hp0 : 0 < p := by
      rcases Nat.eq_zero_or_pos p with rfl | h1
      · exact absurd rfl (rc_eq_f h)
      · exact h1
    have ep : Int32.ofNat p - Int32.ofInt 1 = Int32.ofNat (p - 1) := rz_sub (n := 1) hp0
    refine ev_ps 5 rfl (ev_ald rfl rfl (by rw [ep]; exact rz_in (by omega) (by decide)) ?_)
    rw [ep, rz_clamp (k := p - 1) (by omega), hpc (p - 1) (by omega)]
    refine ev_call (av := [_]) rfl rfl rfl rfl ⟨Nat.le_of_ble_eq_true rfl, rfl⟩ ⟨Nat.le_of_ble_eq_true rfl, Nat.le_of_ble_eq_true rfl⟩ (x_endsBlock (hl (p - 1) (by omega))) ?_
    rintro _ _ ⟨⟨u, hu, hui, rfl⟩, rfl⟩
    refine ev_if (cd := .eq) rfl (fun h1 => ?_) (fun h1 => ?_)
    · refine main (fun z => z.elim (fun z => by omega) (fun z => absurd ((rc_eq_t h1).symm.trans (hui.mpr z)) (by decide)))
    · exact ev_ps 1 rfl (ev_ret rfl rfl (rz_bx1 (Or.inr (Or.inl (hui.mp (hu.resolve_left (rc_eq_f h1)))))))
theorem y_hasRow {p m : Nat} (hv : v 0 = Int32.ofNat n) (hn : n ≤ 24) (hp : p ≤ 24) (hm : m ≤ 3) (hm1 : 1 ≤ m) (hpc : rz_pc a R n) (hl : rz_lgs R n) : rz_C xs xl 23 [.ref 1, .int (Int32.ofNat p), .int (Int32.ofNat m)] (rz_w v a g) (rz_bx (rz_w v a g) (rz_ir R n p m)) := by
  refine ev_ps 3 rfl (ev_call (av := [_, _, _]) rfl rfl rfl rfl ⟨Nat.le_of_ble_eq_true rfl, rfl⟩ ⟨Nat.le_of_ble_eq_true rfl, Nat.le_of_ble_eq_true rfl⟩ (y_hasAll hv hn hp hm hm1) ?_)
  rintro _ _ ⟨⟨u, hu, hui, rfl⟩, rfl⟩
  refine ev_if (cd := .eq) rfl (fun h1 => ?_) (fun h1 => ?_)
  · exact ev_ps 1 rfl (ev_ret rfl rfl (rz_bx0 (fun z => absurd ((rc_eq_t h1).symm.trans (hui.mpr z.1)) (by decide))))
  have hle : p + m ≤ n := hui.mp (hu.resolve_left (rc_eq_f h1))
  refine ev_ps 3 rfl (ev_call (av := [_, _, _]) rfl rfl rfl rfl ⟨Nat.le_of_ble_eq_true rfl, rfl⟩ ⟨Nat.le_of_ble_eq_true rfl, Nat.le_of_ble_eq_true rfl⟩ (y_allPlain hle hn hpc hl) ?_)
  rintro _ _ ⟨⟨u2, hu2, hui2, rfl⟩, rfl⟩
  refine ev_if (cd := .ne) rfl (fun h2 => ?_) (fun h2 => ?_)
  · have hpl : rz_pl R p m := hui2.mp (hu2.resolve_left (rc_ne_t h2))
    refine ev_ps 2 rfl ?_
    refine ev_loop (α := Nat) (fun r => m - r) (fun r => 1 ≤ r ∧ r ≤ m ∧ ∀ k, p < k → k < p + r → ¬ rz_bn R n k) (fun r => [some (.ref 1), some (.int (Int32.ofNat p)), some (.int (Int32.ofNat m)), some (.int (Int32.ofNat r))]) (fun _ => []) (fun _ => rz_w v a g) ?_ 1 ⟨Nat.le_refl _, hm1, fun k h1 h2 => absurd h2 (by omega)⟩
    rintro k ⟨hk1, hk, hall⟩ ih
    refine ev_ps 2 rfl (ev_ic (cd := .ge) rfl (fun h => ?_) (fun h => ?_))
    · have hkm : m ≤ k := rn_ge_t (by omega) (by omega) h
      exact ev_ps 1 rfl (ev_ret rfl rfl (rz_bx1 ⟨hle, hpl, fun j j1 j2 => hall j j1 (by omega)⟩))
    · have hk' : k < m := rn_ge_f (by omega) (by omega) h
      refine ev_ps 4 rfl ?_
      refine ev_call (av := [.ref 1, .int (Int32.ofNat (p + k))]) rfl (by rw [← rz_add]; rfl) rfl rfl ⟨Nat.le_of_ble_eq_true rfl, rfl⟩ ⟨Nat.le_of_ble_eq_true rfl, Nat.le_of_ble_eq_true rfl⟩ (y_beginsBlock hv hn (by omega) hpc hl) ?_
      rintro _ _ ⟨⟨u3, hu3, hui3, rfl⟩, rfl⟩
      refine ev_if (cd := .eq) rfl (fun h3 => ?_) (fun h3 => ?_)
      · have hnb : ¬ rz_bn R n (p + k) := fun z => absurd ((rc_eq_t h3).symm.trans (hui3.mpr z)) (by decide)
        have h9 := ih (k + 1) ⟨by omega, by omega, fun j j1 j2 => by
          by_cases hjk : j = p + k
          · rw [hjk]; exact hnb
          · exact hall j j1 (by omega)⟩ (by omega)
        rw [← rz_succ k] at h9
        exact ev_ps 2 rfl h9
      · have hb : rz_bn R n (p + k) := hui3.mp (hu3.resolve_left (rc_eq_f h3))
        exact ev_ps 1 rfl (ev_ret rfl rfl (rz_bx0 (fun z => z.2.2 (p + k) (by omega) (by omega) hb)))
  · have hpl : ¬ rz_pl R p m := fun z => absurd ((rc_ne_f h2).symm.trans (hui2.mpr z)) (by decide)
    exact ev_ps 1 rfl (ev_ret rfl rfl (rz_bx0 (fun z => hpl z.2.1)))
theorem y_moveTargets {p less : Nat} (hp : p ≤ 24) (hless : less ≤ 24) (hv : v 0 = Int32.ofNat n) (hn : n ≤ 24) (hpc : rz_pc a R n) (hl : rz_lgs R n) (hfar : ∀ k, k < n → 12 ≤ (R k).1 → (R k).1 ≤ 14 → p < (R k).2.2.2 → less ≤ (R k).2.2.2) : rz_C xs xl 46 [.ref 1, .int (Int32.ofNat p), .int (Int32.ofNat less)] (rz_w v a g) (fun r w' => r = .inl none ∧ ∃ f, w' = rz_w v (rz_ua a 0 f) g ∧ ∀ k, k < n → f k = rz_pk (rz_mv p less (R k))) := by
  refine ev_ps 2 rfl (ev_w (w2 := rz_w v (rz_ua a 0 (a 0)) g) rfl ?_)
  refine ev_loop (α := Nat × Option Value × (Nat → Int32)) (fun r => n - r.1) (fun r => r.1 ≤ n ∧ (∀ k, k < r.1 → r.2.2 k = rz_pk (rz_mv p less (R k))) ∧ ∀ k, r.1 ≤ k → k < n → r.2.2 k = rz_pk (R k)) (fun r => [some (.ref 1), some (.int (Int32.ofNat p)), some (.int (Int32.ofNat less)), some (.int (Int32.ofNat r.1)), r.2.1]) (fun _ => []) (fun r => rz_w v (rz_ua a 0 r.2.2) g) ?_ (0, none, a 0) ⟨Nat.zero_le _, fun k hk => absurd hk (Nat.not_lt_zero _), fun k _ hk => hpc k hk⟩
  rintro ⟨k, l4, f⟩ ⟨hk, hdone, htodo⟩ ih
  dsimp only at hk hdone htodo ih ⊢
  refine ev_ps 3 rfl (ev_ic (cd := .ge) rfl (fun h => ?_) (fun h => ?_))
  · have h' : rz_cmp .ge (Int32.ofNat k) (v 0) = true := h
    rw [hv] at h'
    have hkn : n ≤ k := rn_ge_t (by omega) (by omega) h'
    exact ev_ret rfl rfl ⟨rfl, f, rfl, fun j hj => hdone j (by omega)⟩
  · have h' : rz_cmp .ge (Int32.ofNat k) (v 0) = false := h
    rw [hv] at h'
    have hk' : k < n := rn_ge_f (by omega) (by omega) h'
    have hlk := hl k hk'
    have hin : ¬ (Int32.ofNat k < 0 ∨ 24 ≤ (Int32.ofNat k).toNatClampNeg) := rz_in (by omega) (by decide)
    have e := rz_clamp (k := k) (by omega)
    have ef : rz_ua a 0 f 0 k = rz_pk (R k) := htodo k (Nat.le_refl _) hk'
    have next : ∀ f2 : Nat → Int32, (∀ j, j < k + 1 → f2 j = rz_pk (rz_mv p less (R j))) → (∀ j, k + 1 ≤ j → j < n → f2 j = rz_pk (R j)) → rz_E xs xl 46 58 [some (.ref 1), some (.int (Int32.ofNat p)), some (.int (Int32.ofNat less)), some (.int (Int32.ofNat k)), some (.int (Int32.ofNat (R k).2.2.2))] [] (rz_w v (rz_ua a 0 f2) g) 0 0 (fun r w' => r = .inl none ∧ ∃ f, w' = rz_w v (rz_ua a 0 f) g ∧ ∀ k, k < n → f k = rz_pk (rz_mv p less (R k))) := by
      intro f2 h1 h2
      have h9 := ih (k + 1, some (.int (Int32.ofNat (R k).2.2.2)), f2) ⟨by show k + 1 ≤ n; omega, h1, h2⟩ (by show n - (k + 1) < n - k; omega)
      dsimp only at h9
      rw [← rz_succ k] at h9
      exact ev_ps 2 rfl h9
    have same : ¬ (12 ≤ (R k).1 ∧ (R k).1 ≤ 14 ∧ p < (R k).2.2.2) → rz_E xs xl 46 58 [some (.ref 1), some (.int (Int32.ofNat p)), some (.int (Int32.ofNat less)), some (.int (Int32.ofNat k)), some (.int (Int32.ofNat (R k).2.2.2))] [] (rz_w v (rz_ua a 0 f) g) 0 0 (fun r w' => r = .inl none ∧ ∃ f, w' = rz_w v (rz_ua a 0 f) g ∧ ∀ k, k < n → f k = rz_pk (rz_mv p less (R k))) := fun hno => next f (fun j hj => by
      by_cases hjk : j = k
      · rw [hjk, rz_mv, if_neg hno]; exact ef
      · exact hdone j (by omega)) (fun j h1 h2 => htodo j (by omega) h2)
    refine ev_ps 3 rfl (ev_ald rfl rfl hin ?_)
    rw [e, ef]
    refine ev_call (av := [_]) rfl rfl rfl rfl ⟨Nat.le_of_ble_eq_true rfl, rfl⟩ ⟨Nat.le_of_ble_eq_true rfl, Nat.le_of_ble_eq_true rfl⟩ (x_t hlk) ?_
    rintro _ _ ⟨rfl, rfl⟩
    refine ev_ps 4 rfl (ev_ald rfl rfl hin ?_)
    rw [e, ef]
    refine ev_call (av := [_]) rfl rfl rfl rfl ⟨Nat.le_of_ble_eq_true rfl, rfl⟩ ⟨Nat.le_of_ble_eq_true rfl, Nat.le_of_ble_eq_true rfl⟩ (x_hasTarget hlk) ?_
    rintro _ _ ⟨⟨u, hu, hui, rfl⟩, rfl⟩
    refine ev_if (cd := .eq) rfl (fun h1 => ?_) (fun h1 => ?_)
    · exact same (fun z => absurd ((rc_eq_t h1).symm.trans (hui.mpr ⟨z.1, z.2.1⟩)) (by decide))
    have hT := hui.mp (hu.resolve_left (rc_eq_f h1))
    refine ev_ps 2 rfl (ev_ic (cd := .le) rfl (fun h2 => ?_) (fun h2 => ?_))
    · have h3 := rn_le_t (by have := hlk.2.2.2.1; omega) (by omega) h2
      exact same (fun z => by omega)
    have hgt := rn_le_f (by have := hlk.2.2.2.1; omega) (by omega) h2
    have hless2 := hfar k hk' hT.1 hT.2 hgt
    refine ev_ps 6 rfl (ev_ald rfl rfl hin ?_)
    rw [e, ef]
    refine ev_ps 3 rfl ?_
    refine ev_call (av := [.int (rz_pk (R k)), .int (Int32.ofNat ((R k).2.2.2 - less))]) rfl (by rw [← rz_sub hless2]; rfl) rfl rfl ⟨Nat.le_of_ble_eq_true rfl, rfl⟩ ⟨Nat.le_of_ble_eq_true rfl, Nat.le_of_ble_eq_true rfl⟩ (c_withTarget _ _) ?_
    rintro _ _ ⟨rfl, rfl⟩
    rw [show ((rz_pk (R k) &&& -32) ||| Int32.ofNat ((R k).2.2.2 - less)) = rz_pk ((R k).1, (R k).2.1, (R k).2.2.1, (R k).2.2.2 - less) from rz_pk_w hlk _]
    refine ev_ast rfl rfl hin ?_
    rw [e]
    refine ev_w (w2 := rz_w v (rz_ua a 0 (upd f k (rz_pk ((R k).1, (R k).2.1, (R k).2.2.1, (R k).2.2.2 - less)))) g) rfl ?_
    refine next _ (fun j hj => ?_) (fun j j1 j2 => ?_)
    · by_cases hjk : j = k
      · rw [hjk, rz_mv, if_pos ⟨hT.1, hT.2, hgt⟩]; simp [upd]
      · simp only [upd, hjk, if_false]; exact hdone j (by omega)
    · simp only [upd]
      rw [if_neg (by omega)]
      exact htodo j (by omega) j2
theorem rz_pk_ne {q : rz_Q} (h : rz_lg q) : ¬ rz_pk q = -1 ∧ ¬ rz_pk q = -2 := by
  have e := rz_pk_o h
  have key : ∀ o, o < 16 → ¬ (-1 : Int32) >>> (9 &&& 31) = Int32.ofNat o ∧ ¬ (-2 : Int32) >>> (9 &&& 31) = Int32.ofNat o := by decide +kernel
  have h1 := key q.1 (by have := h.1; omega)
  exact ⟨fun z => h1.1 (by rw [← z]; exact e), fun z => h1.2 (by rw [← z]; exact e)⟩
theorem y_putForRow {p m b : Nat} {q : rz_Q} (x : Int32) (hx : (b = 0 ∧ x = -1) ∨ (b = 1 ∧ x = rz_pk q ∧ rz_lg q ∧ q.1 ≤ 9)) (hbm : b ≤ m) (hm : m ≤ 3) (hv : v 0 = Int32.ofNat n) (hn : n ≤ 24) (hir : rz_ir R n p m) (hpc : rz_pc a R n) (hl : rz_lgs R n) : rz_C xs xl 45 [.ref 1, .int (Int32.ofNat p), .int (Int32.ofNat m), .int x] (rz_w v a g) (fun r w' => r = .inl (some (.int (Int32.ofNat b))) ∧ ∃ f, w' = rz_w (rz_up v 0 (Int32.ofNat (n - (m - b)))) (rz_ua a 0 f) g ∧ ∀ k, k < n - (m - b) → f k = rz_pk (rz_cu R p m b q k)) := by
  have hpm := hir.1
  have hq2 : b ≠ 0 → rz_lg q ∧ q.1 ≤ 9 := fun h => hx.elim (fun z => absurd z.1 h) (fun z => z.2.2)
  have hb1 : b ≤ 1 := hx.elim (fun z => by omega) (fun z => by omega)
  have main : ∀ (f0 : Nat → Int32), (∀ k, k < p + b → f0 k = rz_pk (rz_sh R p m b q k)) → (∀ k, p + b ≤ k → k < n → f0 k = rz_pk (R k)) → rz_E xs xl 45 18 [some (.ref 1), some (.int (Int32.ofNat p)), some (.int (Int32.ofNat m)), some (.int x), some (.int (Int32.ofNat b)), none, none] [] (rz_w v (rz_ua a 0 f0) g) 0 0 (fun r w' => r = .inl (some (.int (Int32.ofNat b))) ∧ ∃ f, w' = rz_w (rz_up v 0 (Int32.ofNat (n - (m - b)))) (rz_ua a 0 f) g ∧ ∀ k, k < n - (m - b) → f k = rz_pk (rz_cu R p m b q k)) := by
    intro f0 hlow hhigh
    refine ev_ps 8 rfl (ev_l (L2 := [some (.ref 1), some (.int (Int32.ofNat p)), some (.int (Int32.ofNat m)), some (.int x), some (.int (Int32.ofNat b)), some (.int (Int32.ofNat (m - b))), some (.int (Int32.ofNat (p + b)))]) (by rw [← rz_sub hbm, ← rz_add]; rfl) ?_)
    refine ev_loop (α := Nat × (Nat → Int32)) (fun r => n - r.1) (fun r => p + b ≤ r.1 ∧ r.1 ≤ n - (m - b) ∧ (∀ k, k < r.1 → r.2 k = rz_pk (rz_sh R p m b q k)) ∧ ∀ k, r.1 ≤ k → k < n → r.2 k = rz_pk (R k)) (fun r => [some (.ref 1), some (.int (Int32.ofNat p)), some (.int (Int32.ofNat m)), some (.int x), some (.int (Int32.ofNat b)), some (.int (Int32.ofNat (m - b))), some (.int (Int32.ofNat r.1))]) (fun _ => []) (fun r => rz_w v (rz_ua a 0 r.2) g) ?_ (p + b, f0) ⟨Nat.le_refl _, by show p + b ≤ n - (m - b); omega, hlow, hhigh⟩
    rintro ⟨k, f⟩ ⟨hpk, hk, hlow, hhigh⟩ ih
    dsimp only at hpk hk hlow hhigh ih ⊢
    refine ev_ps 5 rfl (ev_ic (cd := .ge) rfl (fun h => ?_) (fun h => ?_))
    · have h' : rz_cmp .ge (Int32.ofNat k) (v 0 - Int32.ofNat (m - b)) = true := h
      rw [hv, rz_sub (by omega)] at h'
      have hkn : n - (m - b) ≤ k := rn_ge_t (by omega) (by omega) h'
      refine ev_ps 6 rfl (ev_w (w2 := rz_w (rz_up v 0 (Int32.ofNat (n - (m - b)))) (rz_ua a 0 f) g) (by rw [← rz_sub (k := n) (n := m - b) (by omega), ← hv]; rfl) ?_)
      refine ev_ps 3 rfl (ev_call (av := [_, _, _]) rfl rfl rfl rfl ⟨Nat.le_of_ble_eq_true rfl, rfl⟩ ⟨Nat.le_of_ble_eq_true rfl, Nat.le_of_ble_eq_true rfl⟩ (y_moveTargets (v := rz_up v 0 (Int32.ofNat (n - (m - b)))) (a := rz_ua a 0 f) (R := rz_sh R p m b q) (n := n - (m - b)) (by omega) (by omega) rfl (by omega) (fun j hj => hlow j (by omega)) (fun j hj => (rz_sh_ok hl hir hbm hq2 hj).1) (fun j hj h1 h2 h3 => by have := (rz_sh_ok hl hir hbm hq2 hj).2 h1 h2 h3; omega)) ?_)
      rintro _ _ ⟨rfl, f2, rfl, hf2⟩
      refine ev_ps 1 rfl (ev_ret rfl rfl ⟨rfl, f2, rfl, hf2⟩)
    · have h' : rz_cmp .ge (Int32.ofNat k) (v 0 - Int32.ofNat (m - b)) = false := h
      rw [hv, rz_sub (by omega)] at h'
      have hk' : k < n - (m - b) := rn_ge_f (by omega) (by omega) h'
      refine ev_ps 8 rfl (ev_ald rfl rfl (by rw [rz_add]; exact rz_in (by omega) (by decide)) ?_)
      rw [rz_add, rz_clamp (k := k + (m - b)) (by omega), show rz_ua a 0 f 0 (k + (m - b)) = rz_pk (R (k + (m - b))) from hhigh _ (by omega) (by omega)]
      refine ev_ast rfl rfl (rz_in (by omega) (by decide)) ?_
      rw [rz_clamp (k := k) (by omega)]
      have esh : rz_sh R p m b q k = R (k + (m - b)) := by unfold rz_sh; rw [if_neg (by omega), if_neg (by omega)]
      have h9 := ih (k + 1, upd f k (rz_pk (R (k + (m - b))))) ⟨by show p + b ≤ k + 1; omega, by show k + 1 ≤ n - (m - b); omega, fun j hj => by
        by_cases hjk : j = k
        · rw [hjk, esh]; simp [upd]
        · simp only [upd, hjk, if_false]; exact hlow j (by have : j < k + 1 := hj; omega), fun j h1 h2 => by
        simp only [upd]
        rw [if_neg (by have : k + 1 ≤ j := h1; omega)]
        exact hhigh j (by have : k + 1 ≤ j := h1; omega) h2⟩ (by show n - (k + 1) < n - k; omega)
      dsimp only at h9
      rw [← rz_succ k] at h9
      exact ev_w (w2 := rz_w v (rz_ua a 0 (upd f k (rz_pk (R (k + (m - b)))))) g) rfl (ev_ps 2 rfl h9)
  have shl : ∀ k, k < p → rz_sh R p m b q k = R k := fun k hk => by unfold rz_sh; rw [if_pos hk]
  refine ev_ps 4 rfl (ev_ic (cd := .eq) rfl (fun h => ?_) (fun h => ?_))
  · have hb0 : b = 0 := hx.elim (fun z => z.1) (fun z => absurd (z.2.1.symm.trans (rc_eq_t h)) (rz_pk_ne z.2.2.1).1)
    subst hb0
    exact ev_w (w2 := rz_w v (rz_ua a 0 (a 0)) g) rfl (main (a 0) (fun k hk => by rw [shl k (by omega)]; exact hpc k (by omega)) (fun k _ h2 => hpc k h2))
  · obtain ⟨hb0, hxq, hlq, h9q⟩ := hx.resolve_left (fun z => rc_eq_f h (by rw [z.2]; rfl))
    subst hb0
    refine ev_ps 4 rfl (ev_ast rfl rfl (rz_in (by omega) (by decide)) ?_)
    rw [rz_clamp (k := p) (by omega)]
    refine ev_w (w2 := rz_w v (rz_ua a 0 (upd (a 0) p x)) g) rfl (ev_ps 2 rfl (main _ (fun k hk => ?_) (fun k h1 h2 => ?_)))
    · by_cases hkp : k = p
      · have esh : rz_sh R p m 1 q k = q := by unfold rz_sh; rw [if_neg (by omega), if_pos (by omega)]
        rw [esh, hkp]; simp [upd, hxq]
      · simp only [upd, hkp, if_false]
        rw [shl k (by omega)]; exact hpc k (by omega)
    · simp only [upd]
      rw [if_neg (by omega)]
      exact hpc k h2
end RZY2
