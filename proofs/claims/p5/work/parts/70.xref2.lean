/-! the reference, exactly: blocks, rows, liveness, candidates -/
section RZX2
variable {xs : Nat → Int32} {xl : Nat} {v : Nat → Int32} {a : Nat → Nat → Int32} {g : Nat → Int64} {R : Nat → rz_Q}
theorem rz_pr_rw {n k : Nat} (hp : rz_pr a R n) (hl : rz_lgs R n) (hk : k < n) : rz_rw a k (R k) := ⟨hl k hk, hp k hk⟩
theorem m_isPlainX {p n : Nat} (hp : p + n ≤ 25) (hr : ∀ k, p ≤ k → k < p + n → rz_rw a k (R k)) : rz_C xs xl 94 [.ref 25, .int (Int32.ofNat p), .int (Int32.ofNat n)] (rz_w v a g) (rz_bx (rz_w v a g) (rz_pl R p n)) := by
  refine ev_ps 4 rfl ?_
  refine ev_loop (α := Nat × Int32) (fun r => p + n - r.1) (fun r => p ≤ r.1 ∧ r.1 ≤ p + n ∧ (r.2 = 0 ∨ r.2 = 1) ∧ (r.2 = 1 ↔ ∀ k, p ≤ k → k < r.1 → (R k).1 ≤ 9)) (fun r => [some (.ref 25), some (.int (Int32.ofNat p)), some (.int (Int32.ofNat n)), some (.int r.2), some (.int (Int32.ofNat r.1))]) (fun _ => []) (fun _ => rz_w v a g) ?_ (p, 1) ⟨Nat.le_refl _, by show p ≤ p + n; omega, Or.inr rfl, fun _ k h1 h2 => absurd h2 (by show ¬ k < p; omega), fun _ => rfl⟩
  rintro ⟨k, b⟩ ⟨hpk, hk, hb, hiff⟩ ih
  dsimp only at hpk hk hb hiff ih ⊢
  have next : k < p + n → ∀ c : Int32, (c = 0 ∨ c = 1) → (c = 1 ↔ (b = 1 ∧ (R k).1 ≤ 9)) → rz_E xs xl 94 34 [some (.ref 25), some (.int (Int32.ofNat p)), some (.int (Int32.ofNat n)), some (.int b), some (.int (Int32.ofNat k))] [.int c] (rz_w v a g) 0 0 (rz_bx (rz_w v a g) (rz_pl R p n)) := fun hk' c hc hci => by
    have h9 := ih (k + 1, c) ⟨by show p ≤ k + 1; omega, by show k + 1 ≤ p + n; omega, hc, fun q j h1 h2 => by
      obtain ⟨q1, q2⟩ := hci.mp q
      by_cases hjk : j = k
      · rw [hjk]; exact q2
      · exact hiff.mp q1 j h1 (by have : j < k + 1 := h2; omega), fun q => hci.mpr ⟨hiff.mpr (fun j h1 h2 => q j h1 (by show j < k + 1; omega)), q k hpk (by show k < k + 1; omega)⟩⟩ (by show p + n - (k + 1) < p + n - k; omega)
    dsimp only at h9
    rw [← rz_succ k] at h9
    exact ev_ps 3 rfl h9
  refine ev_ps 4 rfl (ev_ic (cd := .ge) rfl (fun h => ?_) (fun h => ?_))
  · rw [rz_add] at h
    have hkn : p + n ≤ k := rn_ge_t (by omega) (by omega) h
    have e : k = p + n := by omega
    subst e
    exact ev_ps 1 rfl (ev_ret rfl (show (if b = 0 ∨ b = 1 then some (some (Value.int b)) else none) = _ from if_pos hb) ⟨⟨b, hb, hiff, rfl⟩, rfl⟩)
  · rw [rz_add] at h
    have hk' : k < p + n := rn_ge_f (by omega) (by omega) h
    have hrow := hr k hpk hk'
    refine ev_ps 1 rfl (ev_if (cd := .eq) rfl (fun h => ?_) (fun h => ?_))
    · have hb0 : b = 0 := rc_eq_t h
      exact ev_ps 1 rfl (next hk' 0 (Or.inl rfl) ⟨fun q => absurd q (by decide), fun q => absurd (hb0.symm.trans q.1) (by decide)⟩)
    · have hb1 : b = 1 := hb.resolve_left (rc_eq_f h)
      refine ev_ps 3 rfl (ev_ald rfl rfl (rz_in (by omega) (by decide)) ?_)
      rw [rz_clamp (k := k) (by omega), hrow.2.1]
      refine ev_ps 1 rfl (ev_ic (cd := .gt) rfl (fun h => ?_) (fun h => ?_))
      · have h9 : 9 < (R k).1 := rn_gt_t (k := 9) (by have := hrow.1.1; omega) (by omega) h
        exact ev_ps 1 rfl (next hk' 0 (Or.inl rfl) ⟨fun q => absurd q (by decide), fun q => absurd q.2 (by omega)⟩)
      · have h9 : (R k).1 ≤ 9 := rn_gt_f (k := 9) (by have := hrow.1.1; omega) (by omega) h
        exact ev_ps 2 rfl (next hk' 1 (Or.inr rfl) ⟨fun _ => ⟨hb1, h9⟩, fun _ => rfl⟩)
theorem m_isBeginX {p n : Nat} (hv : v 21 = Int32.ofNat n) (hn : n ≤ 24) (hp : p ≤ n) (hpr : rz_pr a R n) (hl : rz_lgs R n) : rz_C xs xl 91 [.ref 25, .int (Int32.ofNat p)] (rz_w v a g) (rz_bx (rz_w v a g) (rz_bn R n p)) := by
  have main : ∀ b : Int32, (b = 0 ∨ b = 1) → (b = 1 ↔ (p = 0 ∨ 12 ≤ (R (p - 1)).1)) → rz_E xs xl 91 22 [some (.ref 25), some (.int (Int32.ofNat p)), none, none] [.int b] (rz_w v a g) 0 0 (rz_bx (rz_w v a g) (rz_bn R n p)) := by
    intro b hb hbp
    refine ev_ps 3 rfl ?_
    refine ev_loop (α := Nat × Int32) (fun r => n - r.1) (fun r => r.1 ≤ n ∧ (r.2 = 0 ∨ r.2 = 1) ∧ (r.2 = 1 ↔ rz_bn R r.1 p)) (fun r => [some (.ref 25), some (.int (Int32.ofNat p)), some (.int r.2), some (.int (Int32.ofNat r.1))]) (fun _ => []) (fun _ => rz_w v a g) ?_ (0, b) ⟨Nat.zero_le _, hb, fun q => (hbp.mp q).elim Or.inl (fun z => Or.inr (Or.inl z)), fun q => hbp.mpr (q.elim Or.inl (fun z => z.elim Or.inr (fun ⟨k, hk, _⟩ => absurd hk (Nat.not_lt_zero _))))⟩
    rintro ⟨k, b⟩ ⟨hk, hb, hbp⟩ ih
    dsimp only at hk hb hbp ih ⊢
    have next : k < n → ∀ c : Int32, (c = 0 ∨ c = 1) → (c = 1 ↔ (b = 1 ∨ (12 ≤ (R k).1 ∧ (R k).1 ≤ 14 ∧ (R k).2.2.2 = p))) → rz_E xs xl 91 74 [some (.ref 25), some (.int (Int32.ofNat p)), some (.int b), some (.int (Int32.ofNat k))] [.int c] (rz_w v a g) 0 0 (rz_bx (rz_w v a g) (rz_bn R n p)) := fun hk' c hc hcp => by
      have h9 := ih (k + 1, c) ⟨by show k + 1 ≤ n; omega, hc, fun q => by
        rcases hcp.mp q with q1 | q1
        · rcases hbp.mp q1 with z | z | ⟨j, hj, z⟩
          · exact Or.inl z
          · exact Or.inr (Or.inl z)
          · exact Or.inr (Or.inr ⟨j, by show j < k + 1; omega, z⟩)
        · exact Or.inr (Or.inr ⟨k, by show k < k + 1; omega, q1⟩), fun q => hcp.mpr (by
        rcases q with z | z | ⟨j, hj, z⟩
        · exact Or.inl (hbp.mpr (Or.inl z))
        · exact Or.inl (hbp.mpr (Or.inr (Or.inl z)))
        · by_cases hjk : j = k
          · rw [hjk] at z; exact Or.inr z
          · exact Or.inl (hbp.mpr (Or.inr (Or.inr ⟨j, by have : j < k + 1 := hj; omega, z⟩))))⟩ (by show n - (k + 1) < n - k; omega)
      dsimp only at h9
      rw [← rz_succ k] at h9
      exact ev_ps 3 rfl h9
    refine ev_ps 3 rfl (ev_ic (cd := .ge) rfl (fun h => ?_) (fun h => ?_))
    · rw [hv] at h
      have hkn : n ≤ k := rn_ge_t (by omega) (by omega) h
      have : k = n := by omega
      subst this
      exact ev_ps 1 rfl (ev_ret rfl (show (if b = 0 ∨ b = 1 then some (some (Value.int b)) else none) = _ from if_pos hb) ⟨⟨b, hb, hbp, rfl⟩, rfl⟩)
    · rw [hv] at h
      have hk' : k < n := rn_ge_f (by omega) (by omega) h
      have e := rz_clamp (k := k) (by omega)
      have hin : ¬ (Int32.ofNat k < 0 ∨ 25 ≤ (Int32.ofNat k).toNatClampNeg) := rz_in (by omega) (by decide)
      obtain ⟨⟨b1, b2, b3, b4, b5⟩, e1, e2, e3, e4⟩ := rz_pr_rw hpr hl hk'
      refine ev_ps 1 rfl (ev_if (cd := .ne) rfl (fun h => ?_) (fun h => ?_))
      · exact ev_ps 2 rfl (next hk' 1 (Or.inr rfl) ⟨fun _ => Or.inl (hb.resolve_left (rc_ne_t h)), fun _ => rfl⟩)
      · have hb0 : b = 0 := rc_ne_f h
        have no : ¬ (12 ≤ (R k).1 ∧ (R k).1 ≤ 14 ∧ (R k).2.2.2 = p) → ((0 : Int32) = 1 ↔ (b = 1 ∨ (12 ≤ (R k).1 ∧ (R k).1 ≤ 14 ∧ (R k).2.2.2 = p))) := fun hno => ⟨fun q => absurd q (by decide), fun q => q.elim (fun z => absurd (hb0.symm.trans z) (by decide)) (fun z => absurd z hno)⟩
        refine ev_ps 3 rfl (ev_ald rfl rfl hin ?_)
        rw [e, e1]
        refine ev_ps 1 rfl (ev_ic (cd := .lt) rfl (fun h => ?_) (fun h => ?_))
        · have h1 : (R k).1 < 12 := rn_lt_t (k := 12) (by omega) (by omega) h
          exact ev_ps 1 rfl (next hk' 0 (Or.inl rfl) (no (fun q => by omega)))
        · have h1 : 12 ≤ (R k).1 := rn_lt_f (k := 12) (by omega) (by omega) h
          refine ev_ps 3 rfl (ev_ald rfl rfl hin ?_)
          rw [e, e1]
          refine ev_ps 1 rfl (ev_ic (cd := .gt) rfl (fun h2 => ?_) (fun h2 => ?_))
          · have h3 : 14 < (R k).1 := rn_gt_t (k := 14) (by omega) (by omega) h2
            exact ev_ps 1 rfl (next hk' 0 (Or.inl rfl) (no (fun q => by omega)))
          · have h3 : (R k).1 ≤ 14 := rn_gt_f (k := 14) (by omega) (by omega) h2
            refine ev_ps 3 rfl (ev_ald rfl rfl hin ?_)
            rw [e, e4]
            refine ev_ps 1 rfl (ev_ic (cd := .ne) rfl (fun h4 => ?_) (fun h4 => ?_))
            · exact ev_ps 1 rfl (next hk' 0 (Or.inl rfl) (no (fun q => rc_ne_t h4 (by rw [q.2.2]))))
            · have h5 : (R k).2.2.2 = p := (rz_eq_iff (by omega) (by omega)).mp (rc_ne_f h4)
              exact ev_ps 2 rfl (next hk' 1 (Or.inr rfl) ⟨fun _ => Or.inr ⟨h1, h3, h5⟩, fun _ => rfl⟩)
  refine ev_ps 1 rfl (ev_if (cd := .eq) rfl (fun h1 => ?_) (fun h1 => ?_))
  · have hp0 : p = 0 := (rz_eq_iff (k := 0) (by omega) (by omega)).mp (rc_eq_t h1)
    exact ev_ps 2 rfl (main 1 (Or.inr rfl) ⟨fun _ => Or.inl hp0, fun _ => rfl⟩)
  · have hp0 : 0 < p := by
      rcases Nat.eq_zero_or_pos p with rfl | h
      · exact absurd rfl (rc_eq_f h1)
      · exact h
    obtain ⟨⟨b1, b2, b3, b4, b5⟩, e1, e2, e3, e4⟩ := rz_pr_rw hpr hl (show p - 1 < n by omega)
    have ep : Int32.ofNat p - Int32.ofInt 1 = Int32.ofNat (p - 1) := rz_sub (n := 1) hp0
    refine ev_ps 5 rfl (ev_ald rfl rfl (by rw [ep]; exact rz_in (by omega) (by decide)) ?_)
    rw [ep, rz_clamp (k := p - 1) (by omega), e1]
    refine ev_ps 1 rfl (ev_ic (cd := .lt) rfl (fun h2 => ?_) (fun h2 => ?_))
    · have h3 : (R (p - 1)).1 < 12 := rn_lt_t (k := 12) (by omega) (by omega) h2
      exact ev_ps 1 rfl (main 0 (Or.inl rfl) ⟨fun q => absurd q (by decide), fun q => absurd q (by omega)⟩)
    · have h3 : 12 ≤ (R (p - 1)).1 := rn_lt_f (k := 12) (by omega) (by omega) h2
      exact ev_ps 2 rfl (main 1 (Or.inr rfl) ⟨fun _ => Or.inr h3, fun _ => rfl⟩)
theorem m_isRowX {p m n : Nat} (hv : v 21 = Int32.ofNat n) (hn : n ≤ 24) (hp : p ≤ 24) (hm : m ≤ 3) (hm1 : 1 ≤ m) (hpr : rz_pr a R n) (hl : rz_lgs R n) : rz_C xs xl 99 [.ref 25, .int (Int32.ofNat p), .int (Int32.ofNat m)] (rz_w v a g) (rz_bx (rz_w v a g) (rz_ir R n p m)) := by
  refine ev_ps 5 rfl (ev_ic (cd := .gt) rfl (fun h => ?_) (fun h => ?_))
  · rw [rz_add, hv] at h
    have hlt : n < p + m := rn_gt_t (by omega) (by omega) h
    exact ev_ps 1 rfl (ev_ret rfl rfl (rz_bx0 (fun q => absurd q.1 (by omega))))
  · rw [rz_add, hv] at h
    have hle : p + m ≤ n := rn_gt_f (by omega) (by omega) h
    refine ev_ps 3 rfl (ev_call (av := [_, _, _]) rfl rfl rfl rfl ⟨Nat.le_of_ble_eq_true rfl, rfl⟩ ⟨Nat.le_of_ble_eq_true rfl, Nat.le_of_ble_eq_true rfl⟩ (m_isPlainX (by omega) (fun k h1 h2 => rz_pr_rw hpr hl (by omega))) ?_)
    rintro _ _ ⟨⟨u, hu, hui, rfl⟩, rfl⟩
    refine ev_if (cd := .ne) rfl (fun h1 => ?_) (fun h1 => ?_)
    · have hpl : rz_pl R p m := hui.mp (hu.resolve_left (rc_ne_t h1))
      refine ev_ps 6 rfl (ev_l (L2 := [some (.ref 25), some (.int (Int32.ofNat p)), some (.int (Int32.ofNat m)), some (.int 1), some (.int (Int32.ofNat (p + 1)))]) (by rw [← rz_succ]; rfl) ?_)
      refine ev_loop (α := Nat × Int32) (fun r => p + m - r.1) (fun r => p < r.1 ∧ r.1 ≤ p + m ∧ (r.2 = 0 ∨ r.2 = 1) ∧ (r.2 = 1 ↔ ∀ k, p < k → k < r.1 → ¬ rz_bn R n k)) (fun r => [some (.ref 25), some (.int (Int32.ofNat p)), some (.int (Int32.ofNat m)), some (.int r.2), some (.int (Int32.ofNat r.1))]) (fun _ => []) (fun _ => rz_w v a g) ?_ (p + 1, 1) ⟨by show p < p + 1; omega, by show p + 1 ≤ p + m; omega, Or.inr rfl, fun _ j h1 h2 => absurd h2 (by show ¬ j < p + 1; omega), fun _ => rfl⟩
      rintro ⟨k, b⟩ ⟨hpk, hk, hb, hbp⟩ ih
      dsimp only at hpk hk hb hbp ih ⊢
      have next : k < p + m → ∀ c : Int32, (c = 0 ∨ c = 1) → (c = 1 ↔ (b = 1 ∧ ¬ rz_bn R n k)) → rz_E xs xl 99 54 [some (.ref 25), some (.int (Int32.ofNat p)), some (.int (Int32.ofNat m)), some (.int b), some (.int (Int32.ofNat k))] [.int c] (rz_w v a g) 0 0 (rz_bx (rz_w v a g) (rz_ir R n p m)) := fun hk' c hc hcp => by
        have h9 := ih (k + 1, c) ⟨by show p < k + 1; omega, by show k + 1 ≤ p + m; omega, hc, fun q j h1 h2 => by
          obtain ⟨q1, q2⟩ := hcp.mp q
          by_cases hjk : j = k
          · rw [hjk]; exact q2
          · exact hbp.mp q1 j h1 (by have : j < k + 1 := h2; omega), fun q => hcp.mpr ⟨hbp.mpr (fun j h1 h2 => q j h1 (by show j < k + 1; omega)), q k hpk (by show k < k + 1; omega)⟩⟩ (by show p + m - (k + 1) < p + m - k; omega)
        dsimp only at h9
        rw [← rz_succ k] at h9
        exact ev_ps 3 rfl h9
      refine ev_ps 4 rfl (ev_ic (cd := .ge) rfl (fun h => ?_) (fun h => ?_))
      · rw [rz_add] at h
        have hkn : p + m ≤ k := rn_ge_t (by omega) (by omega) h
        have e : k = p + m := by omega
        subst e
        exact ev_ps 1 rfl (ev_ret rfl (show (if b = 0 ∨ b = 1 then some (some (Value.int b)) else none) = _ from if_pos hb) ⟨⟨b, hb, ⟨fun q => ⟨hle, hpl, hbp.mp q⟩, fun q => hbp.mpr q.2.2⟩, rfl⟩, rfl⟩)
      · rw [rz_add] at h
        have hk' : k < p + m := rn_ge_f (by omega) (by omega) h
        refine ev_ps 1 rfl (ev_if (cd := .eq) rfl (fun h => ?_) (fun h => ?_))
        · have hb0 : b = 0 := rc_eq_t h
          exact ev_ps 1 rfl (next hk' 0 (Or.inl rfl) ⟨fun q => absurd q (by decide), fun q => absurd (hb0.symm.trans q.1) (by decide)⟩)
        · have hb1 : b = 1 := hb.resolve_left (rc_eq_f h)
          refine ev_ps 2 rfl (ev_call (av := [_, _]) rfl rfl rfl rfl ⟨Nat.le_of_ble_eq_true rfl, rfl⟩ ⟨Nat.le_of_ble_eq_true rfl, Nat.le_of_ble_eq_true rfl⟩ (m_isBeginX hv hn (by omega) hpr hl) ?_)
          rintro _ _ ⟨⟨u3, hu3, hP3, rfl⟩, rfl⟩
          refine ev_if (cd := .ne) rfl (fun h => ?_) (fun h => ?_)
          · have hbn := hP3.mp (hu3.resolve_left (rc_ne_t h))
            exact ev_ps 1 rfl (next hk' 0 (Or.inl rfl) ⟨fun q => absurd q (by decide), fun q => absurd hbn q.2⟩)
          · have hbn : ¬ rz_bn R n k := fun q => absurd ((rc_ne_f h).symm.trans (hP3.mpr q)) (by decide)
            exact ev_ps 2 rfl (next hk' 1 (Or.inr rfl) ⟨fun _ => ⟨hb1, hbn⟩, fun _ => rfl⟩)
    · have hpl : ¬ rz_pl R p m := fun q => absurd ((rc_ne_f h1).symm.trans (hui.mpr q)) (by decide)
      exact ev_ps 1 rfl (ev_ret rfl rfl (rz_bx0 (fun q => hpl q.2.1)))
theorem m_isCandidateX {p n t : Nat} (ht : t < 16) (hp : p + n ≤ 25) (hr : ∀ k, p ≤ k → k < p + n → rz_rw a k (R k)) : rz_C xs xl 101 [.ref 25, .int (Int32.ofNat t), .int (Int32.ofNat p), .int (Int32.ofNat n)] (rz_w v a g) (rz_bx (rz_w v a g) (rz_cd R p n t)) := by
  have main : ∀ b : Int32, (b = 0 ∨ b = 1) → (b = 1 ↔ (t = 0 ∨ t = 1 ∨ t = 15)) → rz_E xs xl 101 20 [some (.ref 25), some (.int (Int32.ofNat t)), some (.int (Int32.ofNat p)), some (.int (Int32.ofNat n)), none, none] [.int b] (rz_w v a g) 0 0 (rz_bx (rz_w v a g) (rz_cd R p n t)) := by
    intro b hb hbi
    refine ev_ps 3 rfl ?_
    refine ev_loop (α := Nat × Int32) (fun r => p + n - r.1) (fun r => p ≤ r.1 ∧ r.1 ≤ p + n ∧ (r.2 = 0 ∨ r.2 = 1) ∧ (r.2 = 1 ↔ rz_cd R p (r.1 - p) t)) (fun r => [some (.ref 25), some (.int (Int32.ofNat t)), some (.int (Int32.ofNat p)), some (.int (Int32.ofNat n)), some (.int r.2), some (.int (Int32.ofNat r.1))]) (fun _ => []) (fun _ => rz_w v a g) ?_ (p, b) ⟨Nat.le_refl _, by show p ≤ p + n; omega, hb, fun q => by
      rcases hbi.mp q with z | z | z
      · exact Or.inl z
      · exact Or.inr (Or.inl z)
      · exact Or.inr (Or.inr (Or.inl z)), fun q => hbi.mpr (by
      rcases q with z | z | z | ⟨k, h1, h2, z⟩
      · exact Or.inl z
      · exact Or.inr (Or.inl z)
      · exact Or.inr (Or.inr z)
      · exact absurd h2 (by show ¬ k < p + (p - p); omega))⟩
    rintro ⟨k, b⟩ ⟨hpk, hk, hb, hbi⟩ ih
    dsimp only at hpk hk hb hbi ih ⊢
    have next : k < p + n → ∀ c : Int32, (c = 0 ∨ c = 1) → (c = 1 ↔ (b = 1 ∨ (6 ≤ (R k).1 ∧ (R k).2.2.2 = t))) → rz_E xs xl 101 66 [some (.ref 25), some (.int (Int32.ofNat t)), some (.int (Int32.ofNat p)), some (.int (Int32.ofNat n)), some (.int b), some (.int (Int32.ofNat k))] [.int c] (rz_w v a g) 0 0 (rz_bx (rz_w v a g) (rz_cd R p n t)) := fun hk' c hc hci => by
      have h9 := ih (k + 1, c) ⟨by show p ≤ k + 1; omega, by show k + 1 ≤ p + n; omega, hc, fun q => by
        rcases hci.mp q with q1 | q1
        · rcases hbi.mp q1 with z | z | z | ⟨j, h1, h2, z⟩
          · exact Or.inl z
          · exact Or.inr (Or.inl z)
          · exact Or.inr (Or.inr (Or.inl z))
          · exact Or.inr (Or.inr (Or.inr ⟨j, h1, by show j < p + (k + 1 - p); omega, z⟩))
        · exact Or.inr (Or.inr (Or.inr ⟨k, hpk, by show k < p + (k + 1 - p); omega, q1⟩)), fun q => hci.mpr (by
        rcases q with z | z | z | ⟨j, h1, h2, z⟩
        · exact Or.inl (hbi.mpr (Or.inl z))
        · exact Or.inl (hbi.mpr (Or.inr (Or.inl z)))
        · exact Or.inl (hbi.mpr (Or.inr (Or.inr (Or.inl z))))
        · by_cases hjk : j = k
          · rw [hjk] at z; exact Or.inr z
          · exact Or.inl (hbi.mpr (Or.inr (Or.inr (Or.inr ⟨j, h1, by have : j < p + (k + 1 - p) := h2; omega, z⟩)))))⟩ (by show p + n - (k + 1) < p + n - k; omega)
      dsimp only at h9
      rw [← rz_succ k] at h9
      exact ev_ps 3 rfl h9
    refine ev_ps 4 rfl (ev_ic (cd := .ge) rfl (fun h => ?_) (fun h => ?_))
    · rw [rz_add] at h
      have hkn : p + n ≤ k := rn_ge_t (by omega) (by omega) h
      have e : k = p + n := by omega
      subst e
      rw [show p + n - p = n by omega] at hbi
      exact ev_ps 1 rfl (ev_ret rfl (show (if b = 0 ∨ b = 1 then some (some (Value.int b)) else none) = _ from if_pos hb) ⟨⟨b, hb, hbi, rfl⟩, rfl⟩)
    · rw [rz_add] at h
      have hk' : k < p + n := rn_ge_f (by omega) (by omega) h
      obtain ⟨⟨b1, b2, b3, b4, b5⟩, e1, e2, e3, e4⟩ := hr k hpk hk'
      have e := rz_clamp (k := k) (by omega)
      refine ev_ps 1 rfl (ev_if (cd := .ne) rfl (fun h => ?_) (fun h => ?_))
      · exact ev_ps 2 rfl (next hk' 1 (Or.inr rfl) ⟨fun _ => Or.inl (hb.resolve_left (rc_ne_t h)), fun _ => rfl⟩)
      · have hb0 : b = 0 := rc_ne_f h
        have no : ¬ (6 ≤ (R k).1 ∧ (R k).2.2.2 = t) → ((0 : Int32) = 1 ↔ (b = 1 ∨ (6 ≤ (R k).1 ∧ (R k).2.2.2 = t))) := fun hno => ⟨fun q => absurd q (by decide), fun q => q.elim (fun z => absurd (hb0.symm.trans z) (by decide)) (fun z => absurd z hno)⟩
        refine ev_ps 3 rfl (ev_ald rfl rfl (rz_in (by omega) (by decide)) ?_)
        rw [e, e1]
        refine ev_ps 1 rfl (ev_ic (cd := .lt) rfl (fun h => ?_) (fun h => ?_))
        · have h1 : (R k).1 < 6 := rn_lt_t (k := 6) (by omega) (by omega) h
          exact ev_ps 1 rfl (next hk' 0 (Or.inl rfl) (no (fun q => by omega)))
        · have h1 : 6 ≤ (R k).1 := rn_lt_f (k := 6) (by omega) (by omega) h
          refine ev_ps 3 rfl (ev_ald rfl rfl (rz_in (by omega) (by decide)) ?_)
          rw [e, e4]
          refine ev_ps 1 rfl (ev_ic (cd := .ne) rfl (fun h => ?_) (fun h => ?_))
          · exact ev_ps 1 rfl (next hk' 0 (Or.inl rfl) (no (fun q => rc_ne_t h (by rw [q.2]))))
          · have h2 : (R k).2.2.2 = t := (rz_eq_iff (by omega) (by omega)).mp (rc_ne_f h)
            exact ev_ps 2 rfl (next hk' 1 (Or.inr rfl) ⟨fun _ => Or.inr ⟨h1, h2⟩, fun _ => rfl⟩)
  refine ev_ps 1 rfl (ev_if (cd := .eq) rfl (fun h => ?_) (fun h => ?_))
  · have h0 : t = 0 := (rz_eq_iff (k := 0) (by omega) (by omega)).mp (rc_eq_t h)
    exact ev_ps 2 rfl (main 1 (Or.inr rfl) ⟨fun _ => Or.inl h0, fun _ => rfl⟩)
  · have h0 : ¬ t = 0 := fun q => rc_eq_f h (by rw [q]; rfl)
    refine ev_ps 2 rfl (ev_ic (cd := .eq) rfl (fun h => ?_) (fun h => ?_))
    · have h1 : t = 1 := (rz_eq_iff (k := 1) (by omega) (by omega)).mp (rc_eq_t h)
      exact ev_ps 2 rfl (main 1 (Or.inr rfl) ⟨fun _ => Or.inr (Or.inl h1), fun _ => rfl⟩)
    · have h1 : ¬ t = 1 := fun q => rc_eq_f h (by rw [q]; rfl)
      refine ev_ps 2 rfl (ev_ic (cd := .ne) rfl (fun h => ?_) (fun h => ?_))
      · have h2 : ¬ t = 15 := fun q => rc_ne_t h (by rw [q]; rfl)
        exact ev_ps 1 rfl (main 0 (Or.inl rfl) ⟨fun q => absurd q (by decide), fun q => absurd q (by omega)⟩)
      · have h2 : t = 15 := (rz_eq_iff (k := 15) (by omega) (by omega)).mp (rc_ne_f h)
        exact ev_ps 2 rfl (main 1 (Or.inr rfl) ⟨fun _ => Or.inr (Or.inr h2), fun _ => rfl⟩)
theorem m_findLivesX {n : Nat} (hn : n ≤ 24) (hv : v 21 = Int32.ofNat n) (hpr : rz_pr a R n) (hl : rz_lgs R n) : rz_C xs xl 86 [.ref 25] (rz_w v a g) (fun q w' => q = .inl none ∧ ∃ f, w' = rz_w v (rz_ua a 26 f) g ∧ ∀ k, k < n → f k = rz_lv R n k) := by
  have hrows : ∀ k, k < n → rz_li a k := fun k hk => rz_pr_li hpr hl hk
  have hfl : ∀ p, p < n → rz_li (rz_fam R) p := fun p hp => rz_fam_li (hl p hp)
  -- one place of a sweep
  have place : ∀ (c : Int32) (p : Nat) (f : Nat → Int32) (l3 l4 l5 l6 : Option Value), p < n → (∀ (d : Int32) (l3 l4 l5 l6 : Option Value), (d = 0 ∨ d = 1) → (d = 0 → c = 0 ∧ rz_Fp a n f p = f p) → (d = 1 → ¬ c = 0 ∨ ¬ rz_Fp a n f p = f p) → rz_E xs xl 86 170 [some (.ref 25), some (.int d), some (.int (Int32.ofNat p)), l3, l4, l5, l6] [] (rz_w v (rz_ua a 26 (upd f p (rz_Fp a n f p))) g) 0 0 (fun q w' => q = .inl none ∧ ∃ f, w' = rz_w v (rz_ua a 26 f) g ∧ ∀ k, k < n → f k = rz_lv R n k)) → rz_E xs xl 86 42 [some (.ref 25), some (.int c), some (.int (Int32.ofNat p)), l3, l4, l5, l6] [] (rz_w v (rz_ua a 26 f) g) 0 0 (fun q w' => q = .inl none ∧ ∃ f, w' = rz_w v (rz_ua a 26 f) g ∧ ∀ k, k < n → f k = rz_lv R n k) := by
    intro c p f l3 l4 l5 l6 hp hK
    have e := rz_clamp (k := p) (by omega)
    have hin : ¬ (Int32.ofNat p < 0 ∨ 25 ≤ (Int32.ofNat p).toNatClampNeg) := rz_in (by omega) (by decide)
    obtain ⟨o', d', s', t', ho, hd, hs, ht, b1, b2, b3, b4, b5⟩ := hrows p hp
    have fin : rz_E xs xl 86 141 [some (.ref 25), some (.int c), some (.int (Int32.ofNat p)), some (.int (a 20 p)), some (.int (rz_b1 n f (a 20 p) p ||| rz_b2 n f (a 20 p) (a 23 p).toNatClampNeg)), some (.int (rz_wr (a 20 p) (a 21 p))), some (.int (rz_Fp a n f p))] [] (rz_w v (rz_ua a 26 f) g) 0 0 (fun q w' => q = .inl none ∧ ∃ f, w' = rz_w v (rz_ua a 26 f) g ∧ ∀ k, k < n → f k = rz_lv R n k) := by
      have store : ∀ d : Int32, (d = 0 ∨ d = 1) → (d = 0 → c = 0 ∧ rz_Fp a n f p = f p) → (d = 1 → ¬ c = 0 ∨ ¬ rz_Fp a n f p = f p) → rz_E xs xl 86 161 [some (.ref 25), some (.int c), some (.int (Int32.ofNat p)), some (.int (a 20 p)), some (.int (rz_b1 n f (a 20 p) p ||| rz_b2 n f (a 20 p) (a 23 p).toNatClampNeg)), some (.int (rz_wr (a 20 p) (a 21 p))), some (.int (rz_Fp a n f p))] [.int d] (rz_w v (rz_ua a 26 f) g) 0 0 (fun q w' => q = .inl none ∧ ∃ f, w' = rz_w v (rz_ua a 26 f) g ∧ ∀ k, k < n → f k = rz_lv R n k) := by
        intro d hd0 hd1 hd2
        refine ev_ps 5 rfl (ev_ast rfl rfl hin ?_)
        refine ev_w (w2 := rz_w v (rz_ua a 26 (upd f p (rz_Fp a n f p))) g) (by rw [e]; rfl) ?_
        exact hK d _ _ _ _ hd0 hd1 hd2
      refine ev_ps 1 rfl (ev_if (cd := .ne) rfl (fun h => ?_) (fun h => ?_))
      · exact ev_ps 2 rfl (store 1 (Or.inr rfl) (fun q => absurd q (by decide)) (fun _ => Or.inl (rc_ne_t h)))
      · refine ev_ps 4 rfl (ev_ald rfl rfl hin ?_)
        refine ev_ic (cd := .eq) rfl (fun h2 => ?_) (fun h2 => ?_)
        · refine ev_ps 1 rfl (store 0 (Or.inl rfl) (fun _ => ⟨rc_ne_f h, ?_⟩) (fun q => absurd q (by decide)))
          have := rc_eq_t h2
          rw [e] at this
          exact this
        · refine ev_ps 2 rfl (store 1 (Or.inr rfl) (fun q => absurd q (by decide)) (fun _ => Or.inr (fun q => rc_eq_f h2 ?_)))
          rw [e]
          exact q
    have s124 : ∀ x : Int32, x = rz_wr (a 20 p) (a 21 p) → rz_E xs xl 86 124 [some (.ref 25), some (.int c), some (.int (Int32.ofNat p)), some (.int (a 20 p)), some (.int (rz_b1 n f (a 20 p) p ||| rz_b2 n f (a 20 p) (a 23 p).toNatClampNeg)), l5, l6] [.int x] (rz_w v (rz_ua a 26 f) g) 0 0 (fun q w' => q = .inl none ∧ ∃ f, w' = rz_w v (rz_ua a 26 f) g ∧ ∀ k, k < n → f k = rz_lv R n k) := by
      intro x hx
      subst hx
      refine ev_ps 3 rfl (ev_call (av := [_, _]) rfl rfl rfl rfl ⟨Nat.le_of_ble_eq_true rfl, rfl⟩ ⟨Nat.le_of_ble_eq_true rfl, Nat.le_of_ble_eq_true rfl⟩ (m_reads (by omega)) ?_)
      rintro _ _ ⟨rfl, rfl⟩
      exact ev_ps 7 rfl fin
    have s102 : ∀ x : Int32, x = rz_b2 n f (a 20 p) (a 23 p).toNatClampNeg → rz_E xs xl 86 102 [some (.ref 25), some (.int c), some (.int (Int32.ofNat p)), some (.int (a 20 p)), some (.int (rz_b1 n f (a 20 p) p)), l5, l6] [.int x, .int (rz_b1 n f (a 20 p) p)] (rz_w v (rz_ua a 26 f) g) 0 0 (fun q w' => q = .inl none ∧ ∃ f, w' = rz_w v (rz_ua a 26 f) g ∧ ∀ k, k < n → f k = rz_lv R n k) := by
      intro x hx
      subst hx
      refine ev_ps 4 rfl (ev_ic (cd := .gt) rfl (fun h => ?_) (fun h => ?_))
      · exact ev_ps 1 rfl (s124 0 (by unfold rz_wr; exact (if_pos (rc_gt_t h)).symm))
      · refine ev_ps 3 rfl (ev_ald rfl rfl hin ?_)
        rw [show (rz_ua a 26 f) 21 = a 21 from rfl, e]
        refine ev_call (av := [_]) rfl rfl rfl rfl ⟨Nat.le_of_ble_eq_true rfl, rfl⟩ ⟨Nat.le_of_ble_eq_true rfl, Nat.le_of_ble_eq_true rfl⟩ (m_bit _) ?_
        rintro _ _ ⟨rfl, rfl⟩
        exact ev_ps 1 rfl (s124 _ (by unfold rz_wr; exact (if_neg (rc_gt_f h)).symm))
    have s72 : ∀ (x : Int32) (l4 : Option Value), x = rz_b1 n f (a 20 p) p → rz_E xs xl 86 72 [some (.ref 25), some (.int c), some (.int (Int32.ofNat p)), some (.int (a 20 p)), l4, l5, l6] [.int x] (rz_w v (rz_ua a 26 f) g) 0 0 (fun q w' => q = .inl none ∧ ∃ f, w' = rz_w v (rz_ua a 26 f) g ∧ ∀ k, k < n → f k = rz_lv R n k) := by
      intro x l4 hx
      subst hx
      refine ev_ps 4 rfl (ev_ic (cd := .lt) rfl (fun h => ?_) (fun h => ?_))
      · exact ev_ps 1 rfl (s102 0 (by unfold rz_b2; exact (if_neg (fun q => q.1 (rc_lt_t h))).symm))
      · refine ev_ps 2 rfl (ev_ic (cd := .gt) rfl (fun h2 => ?_) (fun h2 => ?_))
        · exact ev_ps 1 rfl (s102 0 (by unfold rz_b2; exact (if_neg (fun q => q.2 (rc_gt_t h2))).symm))
        · refine ev_ps 4 rfl (ev_ald rfl rfl hin ?_)
          rw [show (rz_ua a 26 f) 23 = a 23 from rfl, e, ht]
          refine ev_call (av := [_, _]) rfl rfl rfl rfl ⟨Nat.le_of_ble_eq_true rfl, rfl⟩ ⟨Nat.le_of_ble_eq_true rfl, Nat.le_of_ble_eq_true rfl⟩ (m_livesAt hv hn b4) ?_
          rintro _ _ ⟨rfl, rfl⟩
          exact ev_ps 1 rfl (s102 _ (by unfold rz_b2; rw [ht, rz_clamp (by omega)]; exact (if_pos ⟨rc_lt_f h, rc_gt_f h2⟩).symm))
    refine ev_ps 3 rfl (ev_ald rfl rfl hin ?_)
    rw [show (rz_ua a 26 f) 20 = a 20 from rfl, e]
    refine ev_ps 3 rfl (ev_ic (cd := .eq) rfl (fun h => ?_) (fun h => ?_))
    · exact ev_ps 2 rfl (s72 0 _ (by unfold rz_b1; exact (if_pos (Or.inl (rc_eq_t h))).symm))
    · refine ev_ps 2 rfl (ev_ic (cd := .ne) rfl (fun h2 => ?_) (fun h2 => ?_))
      · refine ev_ps 4 rfl ?_
        refine ev_call (av := [.ref 25, .int (Int32.ofNat (p + 1))]) rfl (by rw [← rz_succ]; rfl) rfl rfl ⟨Nat.le_of_ble_eq_true rfl, rfl⟩ ⟨Nat.le_of_ble_eq_true rfl, Nat.le_of_ble_eq_true rfl⟩ (m_livesAt hv hn (by omega)) ?_
        rintro _ _ ⟨rfl, rfl⟩
        exact s72 _ _ (by unfold rz_b1; exact (if_neg (fun q => q.elim (rc_eq_f h) (rc_ne_t h2))).symm)
      · exact ev_ps 2 rfl (s72 0 _ (by unfold rz_b1; exact (if_pos (Or.inr (rc_ne_f h2))).symm))
  have sweep : ∀ (c : Int32) (j : Nat) (f : Nat → Int32) (l2 l3 l4 l5 l6 : Option Value), (c = 0 ∨ c = 1) → (c = 0 → rz_sw (rz_fam R) n n (rz_it (rz_fam R) n j) = rz_it (rz_fam R) n j) → (∀ k, k < n → f k = rz_it (rz_fam R) n j k) → rz_E xs xl 86 25 [some (.ref 25), some (.int c), l2, l3, l4, l5, l6] [] (rz_w v (rz_ua a 26 f) g) 0 0 (fun q w' => q = .inl none ∧ ∃ f, w' = rz_w v (rz_ua a 26 f) g ∧ ∀ k, k < n → f k = rz_lv R n k) := by
    intro c j f l2 l3 l4 l5 l6 hc hst hf
    refine ev_loop (α := Int32 × Nat × Option Value × Option Value × Option Value × Option Value × Option Value × (Nat → Int32)) (fun r => 2 * rz_mz (rz_it (rz_fam R) n r.2.1) n + (if r.1 = 1 then 1 else 0)) (fun r => (r.1 = 0 ∨ r.1 = 1) ∧ (r.1 = 0 → rz_sw (rz_fam R) n n (rz_it (rz_fam R) n r.2.1) = rz_it (rz_fam R) n r.2.1) ∧ ∀ k, k < n → r.2.2.2.2.2.2.2 k = rz_it (rz_fam R) n r.2.1 k) (fun r => [some (.ref 25), some (.int r.1), r.2.2.1, r.2.2.2.1, r.2.2.2.2.1, r.2.2.2.2.2.1, r.2.2.2.2.2.2.1]) (fun _ => []) (fun r => rz_w v (rz_ua a 26 r.2.2.2.2.2.2.2) g) ?_ (c, j, l2, l3, l4, l5, l6, f) ⟨hc, hst, hf⟩
    rintro ⟨c, j, l2, l3, l4, l5, l6, f0⟩ ⟨hc, hst, hf0⟩ ih
    dsimp only at hc hst hf0 ih ⊢
    refine ev_ps 1 rfl (ev_if (cd := .eq) rfl (fun h => ?_) (fun h => ?_))
    · exact ev_ret rfl rfl ⟨rfl, f0, rfl, fun k hk => by rw [hf0 k hk, rz_it_eq hfl hn (hst (rc_eq_t h))]; rfl⟩
    · have hc1 : c = 1 := hc.resolve_left (rc_eq_f h)
      rw [if_pos hc1] at ih
      obtain ⟨k1, k2, k3⟩ := rz_sw_K hfl n (Nat.le_refl _) _ (rz_it_K hfl j)
      refine ev_ps 7 rfl ?_
      refine ev_l (L2 := [some (.ref 25), some (.int 0), some (.int (Int32.ofNat n - 1)), l3, l4, l5, l6]) (by rw [← hv]; rfl) ?_
      refine ev_loop (α := Nat × Int32 × Option Value × Option Value × Option Value × Option Value × (Nat → Int32) × (Nat → Int32)) (fun r => r.1) (fun r => r.1 ≤ n ∧ (r.2.1 = 0 ∨ r.2.1 = 1) ∧ (∀ k, k < n → r.2.2.2.2.2.2.1 k = r.2.2.2.2.2.2.2 k) ∧ rz_K (rz_fam R) n r.2.2.2.2.2.2.2 ∧ rz_sw (rz_fam R) n r.1 r.2.2.2.2.2.2.2 = rz_sw (rz_fam R) n n (rz_it (rz_fam R) n j) ∧ (r.2.1 = 0 → r.2.2.2.2.2.2.2 = rz_it (rz_fam R) n j) ∧ rz_mz r.2.2.2.2.2.2.2 n ≤ rz_mz (rz_it (rz_fam R) n j) n ∧ (r.2.1 = 1 → rz_mz r.2.2.2.2.2.2.2 n < rz_mz (rz_it (rz_fam R) n j) n)) (fun r => [some (.ref 25), some (.int r.2.1), some (.int (Int32.ofNat r.1 - 1)), r.2.2.1, r.2.2.2.1, r.2.2.2.2.1, r.2.2.2.2.2.1]) (fun _ => []) (fun r => rz_w v (rz_ua a 26 r.2.2.2.2.2.2.1) g) ?_ (n, 0, l3, l4, l5, l6, f0, rz_it (rz_fam R) n j) ⟨Nat.le_refl _, Or.inl rfl, hf0, rz_it_K hfl j, rfl, fun _ => rfl, Nat.le_refl _, fun q => absurd (show (0 : Int32) = 1 from q) (by decide)⟩
      rintro ⟨k, c2, l3, l4, l5, l6, f, φ⟩ ⟨hk, hc2, hfφ, hKφ, hsw, hc0, hm1, hm2⟩ ih2
      dsimp only at hk hc2 hfφ hKφ hsw hc0 hm1 hm2 ih2 ⊢
      refine ev_ps 1 rfl (ev_if (cd := .lt) rfl (fun h => ?_) (fun h => ?_))
      · have hk0 : k = 0 := by
          rcases Nat.eq_zero_or_pos k with h0 | h0
          · exact h0
          · exfalso
            have h1 := rc_lt_t h
            rw [show Int32.ofNat k - 1 = Int32.ofNat (k - 1) from rz_sub (n := 1) h0] at h1
            exact absurd ((rz_lt_iff (k := 0) (by omega) (by omega)).mp h1) (by omega)
        subst hk0
        have hsw' : φ = rz_sw (rz_fam R) n n (rz_it (rz_fam R) n j) := hsw
        have h9 := ih (c2, j + 1, some (.int (Int32.ofNat 0 - 1)), l3, l4, l5, l6, f) ⟨hc2, fun q => by
          have e1 := hc0 q
          have e2 : rz_sw (rz_fam R) n n (rz_it (rz_fam R) n j) = rz_it (rz_fam R) n j := hsw'.symm.trans e1
          show rz_sw (rz_fam R) n n (rz_sw (rz_fam R) n n (rz_it (rz_fam R) n j)) = rz_sw (rz_fam R) n n (rz_it (rz_fam R) n j)
          rw [e2, e2], fun i hi => (hfφ i hi).trans (congrFun hsw' i)⟩ (by
          show 2 * rz_mz (rz_sw (rz_fam R) n n (rz_it (rz_fam R) n j)) n + (if c2 = 1 then 1 else 0) < 2 * rz_mz (rz_it (rz_fam R) n j) n + 1
          rw [← hsw']
          rcases hc2 with h0 | h1
          · rw [h0, if_neg (by decide)]; omega
          · rw [if_pos h1]; have := hm2 h1; omega)
        exact ev_ps 1 rfl h9
      · have hk0 : 0 < k := by
          rcases Nat.eq_zero_or_pos k with rfl | h0
          · exact absurd (by decide : Int32.ofNat 0 - 1 < 0) (rc_lt_f h)
          · exact h0
        rw [show Int32.ofNat k - 1 = Int32.ofNat (k - 1) from rz_sub (n := 1) hk0]
        have hF : rz_Fp a n f (k - 1) = rz_Fp (rz_fam R) n φ (k - 1) := (rz_Fp_pr hpr (by omega)).trans (rz_Fp_cg hfφ)
        refine place c2 (k - 1) f l3 l4 l5 l6 (by omega) (fun d l3 l4 l5 l6 hd hd0 hd1 => ?_)
        rw [hF] at hd0 hd1 ⊢
        rw [hfφ (k - 1) (by omega)] at hd0 hd1
        obtain ⟨j1, j2, j3⟩ := rz_K_step hKφ (show k - 1 < n by omega) (hfl (k - 1) (by omega))
        have h9 := ih2 (k - 1, d, l3, l4, l5, l6, upd f (k - 1) (rz_Fp (rz_fam R) n φ (k - 1)), upd φ (k - 1) (rz_Fp (rz_fam R) n φ (k - 1))) ⟨by show k - 1 ≤ n; omega, hd, fun i hi => by
          by_cases hik : i = k - 1
          · simp [upd, hik]
          · simp only [upd, hik, if_false]; exact hfφ i hi, j1, by
          rw [show k = (k - 1) + 1 by omega] at hsw
          exact hsw, fun q => by
          obtain ⟨z1, z2⟩ := hd0 q
          exact (rz_upd_self z2).trans (hc0 z1), Nat.le_trans j2 hm1, fun q => by
          rcases hd1 q with h1 | h1
          · exact Nat.lt_of_le_of_lt j2 (hm2 (hc2.resolve_left h1))
          · exact Nat.lt_of_lt_of_le (j3 h1) hm1⟩ (by show k - 1 < k; omega)
        dsimp only at h9
        rw [show Int32.ofNat (k - 1) - 1 = Int32.ofNat (k - 1) + Int32.ofInt (-1) from Int32.sub_eq_add_neg _ _] at h9
        exact ev_ps 2 rfl h9
  refine ev_ps 2 rfl (ev_w (w2 := rz_w v (rz_ua a 26 (a 26)) g) rfl ?_)
  refine ev_loop (α := Nat × (Nat → Int32)) (fun r => n - r.1) (fun r => r.1 ≤ n ∧ ∀ j, j < r.1 → r.2 j = 0) (fun r => [some (.ref 25), some (.int (Int32.ofNat r.1)), none, none, none, none, none]) (fun _ => []) (fun r => rz_w v (rz_ua a 26 r.2) g) ?_ (0, a 26) ⟨Nat.zero_le _, fun j hj => absurd hj (by omega)⟩
  rintro ⟨k, f⟩ ⟨hk, hf⟩ ih
  dsimp only at hk hf ih ⊢
  refine ev_ps 3 rfl (ev_ic (cd := .ge) rfl (fun h => ?_) (fun h => ?_))
  · have h' : rz_cmp .ge (Int32.ofNat k) (v 21) = true := h
    rw [hv] at h'
    have hkn : n ≤ k := rn_ge_t (by omega) (by omega) h'
    exact ev_ps 2 rfl (sweep 1 0 f _ _ _ _ _ (Or.inr rfl) (fun q => absurd q (by decide)) (fun j hj => by rw [hf j (by omega)]; rfl))
  · have h' : rz_cmp .ge (Int32.ofNat k) (v 21) = false := h
    rw [hv] at h'
    have hk' : k < n := rn_ge_f (by omega) (by omega) h'
    refine ev_ps 4 rfl (ev_ast rfl rfl (rz_in (by omega) (by decide)) ?_)
    have h9 := ih (k + 1, upd f k 0) ⟨by show k + 1 ≤ n; omega, fun j hj => by
      by_cases hjk : j = k
      · simp [upd, hjk]
      · simp [upd, hjk]; exact hf j (by have : j < k + 1 := hj; omega)⟩ (by show n - (k + 1) < n - k; omega)
    dsimp only at h9
    rw [← rz_succ k] at h9
    exact ev_w (w2 := rz_w v (rz_ua a 26 (upd f k 0)) g) (by rw [rz_clamp (by omega)]; rfl) (ev_ps 2 rfl h9)
end RZX2
