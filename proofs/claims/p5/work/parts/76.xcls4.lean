/-! the class, exactly: rows, the prover, the search -/
section RZY4
variable {xs : Nat → Int32} {xl : Nat} {v : Nat → Int32} {a : Nat → Nat → Int32} {g : Nat → Int64} {R : Nat → rz_Q} {n : Nat}
/-- an array holds the codes of plain instructions R p, … -/
def rz_rcd (f : Nat → Int32) (R : Nat → rz_Q) (p m : Nat) : Prop := ∀ i, i < m → f i = rz_pk (R (p + i)) ∧ rz_lg (R (p + i)) ∧ (R (p + i)).1 ≤ 9
theorem y_takeFrom_21 {p m : Nat} (hm : m ≤ 3) (hpm : p + m ≤ n) (hn : n ≤ 24) (hpc : rz_pc a R n) (hl : rz_lgs R n) (hpl : rz_pl R p m) : rz_C xs xl 30 [.ref 21, .ref 1, .int (Int32.ofNat p), .int (Int32.ofNat m)] (rz_w v a g) (fun q w' => q = .inl none ∧ ∃ f, w' = rz_w (rz_up v 11 (Int32.ofNat m)) (rz_ua a 9 f) g ∧ rz_rcd f R p m) := by
  refine ev_ps 2 rfl (ev_w (w2 := rz_w v (rz_ua a 9 (a 9)) g) rfl ?_)
  refine ev_loop (α := Nat × (Nat → Int32)) (fun q => m - q.1) (fun q => q.1 ≤ m ∧ rz_rcd q.2 R p q.1) (fun q => [some (.ref 21), some (.ref 1), some (.int (Int32.ofNat p)), some (.int (Int32.ofNat m)), some (.int (Int32.ofNat q.1))]) (fun _ => []) (fun q => rz_w v (rz_ua a 9 q.2) g) ?_ (0, a 9) ⟨Nat.zero_le _, fun i hi => absurd hi (Nat.not_lt_zero _)⟩
  rintro ⟨k, f⟩ ⟨hk, hf⟩ ih
  dsimp only at hk hf ih ⊢
  refine ev_ps 2 rfl (ev_ic (cd := .ge) rfl (fun h => ?_) (fun h => ?_))
  · have hkm : m ≤ k := rn_ge_t (by omega) (by omega) h
    exact ev_ps 3 rfl (ev_ret rfl rfl ⟨rfl, f, rfl, fun i hi => hf i (by omega)⟩)
  · have hk' : k < m := rn_ge_f (by omega) (by omega) h
    refine ev_ps 7 rfl ?_
    refine ev_call (av := [.ref 1, .int (Int32.ofNat (p + k))]) rfl (by rw [← rz_add]; rfl) rfl rfl ⟨Nat.le_of_ble_eq_true rfl, rfl⟩ ⟨Nat.le_of_ble_eq_true rfl, Nat.le_of_ble_eq_true rfl⟩ (y_codeAt (by omega)) ?_
    rintro _ _ ⟨rfl, rfl⟩
    rw [show rz_ua a 9 f 0 (p + k) = rz_pk (R (p + k)) from hpc (p + k) (by omega)]
    refine ev_ast rfl rfl (rz_in (by omega) (by decide)) ?_
    rw [rz_clamp (k := k) (by omega)]
    have h9 := ih (k + 1, upd f k (rz_pk (R (p + k)))) ⟨by show k + 1 ≤ m; omega, fun i hi => by
      by_cases hik : i = k
      · rw [hik]; exact ⟨by simp [upd], hl _ (by omega), hpl _ (by omega) (by omega)⟩
      · simp only [upd, hik, if_false]; exact hf i (by have : i < k + 1 := hi; omega)⟩ (by show m - (k + 1) < m - k; omega)
    dsimp only at h9
    rw [← rz_succ k] at h9
    exact ev_w (w2 := rz_w v (rz_ua a 9 (upd f k (rz_pk (R (p + k))))) g) rfl (ev_ps 2 rfl h9)
theorem y_takeOne_23 (x : Int32) : rz_C xs xl 43 [.ref 23, .int x] (rz_w v a g) (fun q w' => q = .inl none ∧ ∃ f, w' = rz_w (rz_up v 12 1) (rz_ua a 10 f) g ∧ f 0 = x) := by
  refine ev_ps 4 rfl (ev_ast rfl rfl (by decide) ?_)
  refine ev_w (w2 := rz_w v (rz_ua a 10 (upd (a 10) (0 : Int32).toNatClampNeg x)) g) rfl ?_
  exact ev_ps 3 rfl (ev_ret rfl rfl ⟨rfl, _, rfl, rfl⟩)
theorem y_rowRegs_21 {p m : Nat} {x : Int32} {X : Nat → Int32} (hv : v 11 = Int32.ofNat m) (hm : m ≤ 3) (hr : rz_rcd (a 9) R p m) (hx : rz_rg x X) : rz_C xs xl 36 [.ref 21, .int x] (rz_w v a g) (fun q w' => (∃ u, q = .inl (some (.int u)) ∧ rz_rg u (rz_sq R p m X)) ∧ w' = rz_w v a g) := by
  refine ev_ps 4 rfl ?_
  refine ev_loop (α := Nat × Int32) (fun q => m - q.1) (fun q => q.1 ≤ m ∧ rz_rg q.2 (rz_sq R p q.1 X)) (fun q => [some (.ref 21), some (.int x), some (.int q.2), some (.int (Int32.ofNat q.1))]) (fun _ => []) (fun _ => rz_w v a g) ?_ (0, x) ⟨Nat.zero_le _, hx⟩
  rintro ⟨k, y⟩ ⟨hk, hy⟩ ih
  dsimp only at hk hy ih ⊢
  refine ev_ps 3 rfl (ev_ic (cd := .ge) rfl (fun h => ?_) (fun h => ?_))
  · rw [hv] at h
    have e : k = m := by have := rn_ge_t (by omega) (by omega) h; omega
    subst e
    exact ev_ps 1 rfl (ev_ret rfl rfl ⟨⟨_, rfl, hy⟩, rfl⟩)
  · rw [hv] at h
    have hk' : k < m := rn_ge_f (by omega) (by omega) h
    obtain ⟨e, hlg, h9⟩ := hr k hk'
    refine ev_ps 3 rfl (ev_ald rfl rfl (rz_in (by omega) (by decide)) ?_)
    rw [rz_clamp (k := k) (by omega), e]
    refine ev_ps 1 rfl (ev_call (av := [_, _]) rfl rfl rfl rfl ⟨Nat.le_of_ble_eq_true rfl, rfl⟩ ⟨Nat.le_of_ble_eq_true rfl, Nat.le_of_ble_eq_true rfl⟩ (x_regsAfter hlg h9 hy) ?_)
    rintro _ _ ⟨⟨u, rfl, hu⟩, rfl⟩
    have h9 := ih (k + 1, u) ⟨by show k + 1 ≤ m; omega, hu⟩ (by show m - (k + 1) < m - k; omega)
    dsimp only at h9
    rw [← rz_succ k] at h9
    exact ev_ps 3 rfl h9
theorem y_rowRegs_23 {p m : Nat} {x : Int32} {X : Nat → Int32} (hv : v 12 = Int32.ofNat m) (hm : m ≤ 3) (hr : rz_rcd (a 10) R p m) (hx : rz_rg x X) : rz_C xs xl 36 [.ref 23, .int x] (rz_w v a g) (fun q w' => (∃ u, q = .inl (some (.int u)) ∧ rz_rg u (rz_sq R p m X)) ∧ w' = rz_w v a g) := by
  refine ev_ps 4 rfl ?_
  refine ev_loop (α := Nat × Int32) (fun q => m - q.1) (fun q => q.1 ≤ m ∧ rz_rg q.2 (rz_sq R p q.1 X)) (fun q => [some (.ref 23), some (.int x), some (.int q.2), some (.int (Int32.ofNat q.1))]) (fun _ => []) (fun _ => rz_w v a g) ?_ (0, x) ⟨Nat.zero_le _, hx⟩
  rintro ⟨k, y⟩ ⟨hk, hy⟩ ih
  dsimp only at hk hy ih ⊢
  refine ev_ps 3 rfl (ev_ic (cd := .ge) rfl (fun h => ?_) (fun h => ?_))
  · rw [hv] at h
    have e : k = m := by have := rn_ge_t (by omega) (by omega) h; omega
    subst e
    exact ev_ps 1 rfl (ev_ret rfl rfl ⟨⟨_, rfl, hy⟩, rfl⟩)
  · rw [hv] at h
    have hk' : k < m := rn_ge_f (by omega) (by omega) h
    obtain ⟨e, hlg, h9⟩ := hr k hk'
    refine ev_ps 3 rfl (ev_ald rfl rfl (rz_in (by omega) (by decide)) ?_)
    rw [rz_clamp (k := k) (by omega), e]
    refine ev_ps 1 rfl (ev_call (av := [_, _]) rfl rfl rfl rfl ⟨Nat.le_of_ble_eq_true rfl, rfl⟩ ⟨Nat.le_of_ble_eq_true rfl, Nat.le_of_ble_eq_true rfl⟩ (x_regsAfter hlg h9 hy) ?_)
    rintro _ _ ⟨⟨u, rfl, hu⟩, rfl⟩
    have h9 := ih (k + 1, u) ⟨by show k + 1 ≤ m; omega, hu⟩ (by show m - (k + 1) < m - k; omega)
    dsimp only at h9
    rw [← rz_succ k] at h9
    exact ev_ps 3 rfl h9
theorem rz_b_sh1 {x : Int32} {t : Nat} (ht : t < 16) : rz_b (x >>> (Int32.ofNat t &&& 31)) 0 = rz_b x t := by
  have e : (Int32.ofNat t &&& 31 : Int32).toBitVec.smod 32 = BitVec.ofNat 32 t := by
    have key : ∀ k, k < 16 → (Int32.ofNat k &&& 31 : Int32).toBitVec.smod 32 = BitVec.ofNat 32 k := by decide +kernel
    exact key t ht
  unfold rz_b
  rw [Int32.toBitVec_shiftRight, e]
  have e2 : (BitVec.ofNat 32 t).toNat = t := by rw [BitVec.toNat_ofNat]; omega
  rw [BitVec.sshiftRight', e2, BitVec.getLsbD_sshiftRight]
  rw [if_pos (by omega)]
  simp
theorem rz_on_b {x : Int32} {t : Nat} (ht : t < 16) : ((x >>> (Int32.ofNat t &&& 31)) &&& 1 = 1) ↔ rz_b x t = true := by
  have b1 : ∀ i, i < 32 → rz_b 1 i = decide (i = 0) := by decide +kernel
  rw [← rz_b_sh1 ht]
  generalize x >>> (Int32.ofNat t &&& 31) = y
  constructor
  · intro h
    have h2 : rz_b (y &&& 1) 0 = rz_b 1 0 := by rw [h]
    rw [rz_b_and, b1 0 (by omega)] at h2
    simpa using h2
  · intro h
    apply rz_b_ext
    intro i hi
    rw [rz_b_and, b1 i hi]
    by_cases h0 : i = 0
    · rw [h0, h]; rfl
    · simp [h0]
theorem y_numbers {p m : Nat} (hv : v 11 = Int32.ofNat m) (hm : m ≤ 3) (hr : rz_rcd (a 9) R p m) : rz_C xs xl 40 [.ref 21] (rz_w v a g) (fun q w' => (∃ u, q = .inl (some (.int u)) ∧ ∀ t, t < 16 → (rz_b u t = true ↔ ∃ k, p ≤ k ∧ k < p + m ∧ 6 ≤ (R k).1 ∧ (R k).2.2.2 = t)) ∧ w' = rz_w v a g) := by
  refine ev_ps 4 rfl ?_
  refine ev_loop (α := Nat × Int32) (fun q => m - q.1) (fun q => q.1 ≤ m ∧ ∀ t, t < 16 → (rz_b q.2 t = true ↔ ∃ k, p ≤ k ∧ k < p + q.1 ∧ 6 ≤ (R k).1 ∧ (R k).2.2.2 = t)) (fun q => [some (.ref 21), some (.int q.2), some (.int (Int32.ofNat q.1))]) (fun _ => []) (fun _ => rz_w v a g) ?_ (0, 0) ⟨Nat.zero_le _, fun t ht => ⟨fun h => absurd h (by
    have key : ∀ t, t < 16 → ¬ rz_b 0 t = true := by decide +kernel
    exact key t ht), fun ⟨k, h1, h2, _⟩ => absurd h2 (by show ¬ k < p + 0; omega)⟩⟩
  rintro ⟨k, y⟩ ⟨hk, hy⟩ ih
  dsimp only at hk hy ih ⊢
  have next : k < m → ∀ y : Int32, (∀ t, t < 16 → (rz_b y t = true ↔ ∃ j, p ≤ j ∧ j < p + (k + 1) ∧ 6 ≤ (R j).1 ∧ (R j).2.2.2 = t)) → rz_E xs xl 40 38 [some (.ref 21), some (.int y), some (.int (Int32.ofNat k))] [] (rz_w v a g) 0 0 (fun q w' => (∃ u, q = .inl (some (.int u)) ∧ ∀ t, t < 16 → (rz_b u t = true ↔ ∃ k, p ≤ k ∧ k < p + m ∧ 6 ≤ (R k).1 ∧ (R k).2.2.2 = t)) ∧ w' = rz_w v a g) := fun hkn y hy => by
    have h9 := ih (k + 1, y) ⟨by show k + 1 ≤ m; omega, hy⟩ (by show m - (k + 1) < m - k; omega)
    dsimp only at h9
    rw [← rz_succ k] at h9
    exact ev_ps 2 rfl h9
  refine ev_ps 3 rfl (ev_ic (cd := .ge) rfl (fun h => ?_) (fun h => ?_))
  · rw [hv] at h
    have e : k = m := by have := rn_ge_t (by omega) (by omega) h; omega
    subst e
    exact ev_ps 1 rfl (ev_ret rfl rfl ⟨⟨_, rfl, hy⟩, rfl⟩)
  · rw [hv] at h
    have hk' : k < m := rn_ge_f (by omega) (by omega) h
    obtain ⟨e, hlg, h9⟩ := hr k hk'
    refine ev_ps 3 rfl (ev_ald rfl rfl (rz_in (by omega) (by decide)) ?_)
    rw [rz_clamp (k := k) (by omega), e]
    refine ev_call (av := [_]) rfl rfl rfl rfl ⟨Nat.le_of_ble_eq_true rfl, rfl⟩ ⟨Nat.le_of_ble_eq_true rfl, Nat.le_of_ble_eq_true rfl⟩ (x_hasNumber hlg) ?_
    rintro _ _ ⟨⟨u, hu, hui, rfl⟩, rfl⟩
    refine ev_if (cd := .eq) rfl (fun h2 => next hk' _ (fun t ht => ?_)) (fun h2 => ?_)
    · have hno : ¬ 6 ≤ (R (p + k)).1 := fun z => absurd ((rc_eq_t h2).symm.trans (hui.mpr ⟨z, h9⟩)) (by decide)
      rw [hy t ht]
      constructor
      · rintro ⟨j, j1, j2, j3, j4⟩; exact ⟨j, j1, by omega, j3, j4⟩
      · rintro ⟨j, j1, j2, j3, j4⟩
        refine ⟨j, j1, ?_, j3, j4⟩
        rcases Nat.lt_or_ge j (p + k) with h | h
        · exact h
        · have : j = p + k := by omega
          subst this
          exact absurd j3 hno
    · have hyes := (hui.mp (hu.resolve_left (rc_eq_f h2))).1
      refine ev_ps 5 rfl (ev_ald rfl rfl (rz_in (by omega) (by decide)) ?_)
      rw [rz_clamp (k := k) (by omega), e]
      refine ev_call (av := [_]) rfl rfl rfl rfl ⟨Nat.le_of_ble_eq_true rfl, rfl⟩ ⟨Nat.le_of_ble_eq_true rfl, Nat.le_of_ble_eq_true rfl⟩ (x_t hlg) ?_
      rintro _ _ ⟨rfl, rfl⟩
      refine ev_ps 3 rfl (next hk' (y ||| (1 <<< (Int32.ofNat (R (p + k)).2.2.2 &&& 31))) (fun t ht => ?_))
      have key : ∀ j, j < 25 → ∀ t, t < 16 → rz_b (1 <<< (Int32.ofNat j &&& 31)) t = decide (j = t) := by decide +kernel
      rw [rz_b_or, key _ (by have := hlg.2.2.2.1; omega) t ht, Bool.or_eq_true, hy t ht, decide_eq_true_eq]
      constructor
      · rintro (⟨j, j1, j2, j3, j4⟩ | h)
        · exact ⟨j, j1, by omega, j3, j4⟩
        · exact ⟨p + k, by omega, by omega, hyes, h⟩
      · rintro ⟨j, j1, j2, j3, j4⟩
        rcases Nat.lt_or_ge j (p + k) with h | h
        · exact Or.inl ⟨j, j1, h, j3, j4⟩
        · have : j = p + k := by omega
          subst this
          exact Or.inr j4
theorem y_maskOf {w : rz_W} (x : Int32) : rz_C xs xl 32 [.int x] w (fun q w' => q = .inl (some (.int (rz_mo x 4))) ∧ w' = w) := by
  refine ev_ps 4 rfl ?_
  refine ev_loop (α := Nat × Int32) (fun q => 4 - q.1) (fun q => q.1 ≤ 4 ∧ q.2 = rz_mo x q.1) (fun q => [some (.int x), some (.int q.2), some (.int (Int32.ofNat q.1))]) (fun _ => []) (fun _ => w) ?_ (0, 0) ⟨Nat.zero_le _, rfl⟩
  rintro ⟨k, y⟩ ⟨hk, hy⟩ ih
  dsimp only at hk hy ih ⊢
  have next : k < 4 → ∀ y : Int32, y = rz_mo x (k + 1) → rz_E xs xl 32 27 [some (.int x), some (.int y), some (.int (Int32.ofNat k))] [] w 0 0 (fun q w' => q = .inl (some (.int (rz_mo x 4))) ∧ w' = w) := fun hkn y hy => by
    have h9 := ih (k + 1, y) ⟨by show k + 1 ≤ 4; omega, hy⟩ (by show 4 - (k + 1) < 4 - k; omega)
    dsimp only at h9
    rw [← rz_succ k] at h9
    exact ev_ps 2 rfl h9
  refine ev_ps 2 rfl (ev_ic (cd := .ge) rfl (fun h => ?_) (fun h => ?_))
  · have e : k = 4 := by have := rn_ge_t (k := 4) (by omega) (by omega) h; omega
    subst e
    exact ev_ps 1 rfl (ev_ret rfl rfl ⟨by rw [hy], rfl⟩)
  · have hk' : k < 4 := rn_ge_f (k := 4) (by omega) (by omega) h
    refine ev_ps 6 rfl (ev_ic (cd := .ne) rfl (fun h2 => next hk' _ ?_) (fun h2 => ?_))
    · have e : ¬ ((x >>> (Int32.ofNat k &&& 31)) &&& 1 = 1) := rc_ne_t h2
      rw [hy, rz_mo, if_neg e]
    · refine ev_ps 8 rfl (next hk' _ ?_)
      have e : (x >>> (Int32.ofNat k &&& 31)) &&& 1 = 1 := rc_ne_f h2
      rw [hy, rz_mo, if_pos e]
      rfl
theorem rz_rem {N : Nat} (h : N < 2 ^ 31) : Int32.ofNat N - Int32.ofNat N / 4096 * 4096 = Int32.ofNat (N % 4096) := by
  have e1 : Int32.ofNat N / 4096 = Int32.ofNat (N / 4096) := (Int32.ofNat_div (a := N) (b := 4096) h (by decide)).symm
  have e2 : Int32.ofNat (N / 4096) * 4096 = Int32.ofNat (N / 4096 * 4096) := (Int32.ofNat_mul (N / 4096) 4096).symm
  rw [e1, e2, rz_sub (by omega)]
  congr 1
  omega
theorem rz_cover {L s : Nat} (hL : L < 4096) (hs : s < 4096) : ∃ i, i < 4096 ∧ (L + i * 1237) % 4096 = s :=
  ⟨((s + 4096 - L) * 1149) % 4096, by omega, by omega⟩
theorem y_agree_16 {p m m2 L : Nat} {Q : Nat → rz_Q} {z : Int32} (hz : ∃ S, S < 16 ∧ z = Int32.ofNat S) (h1 : v 11 = Int32.ofNat m) (hm : m ≤ 3) (h2 : v 12 = Int32.ofNat m2) (hm2 : m2 ≤ 3) (h8 : v 8 = Int32.ofNat L) (hL : L < 4096) (hr1 : rz_rcd (a 9) R p m) (hr2 : rz_rcd (a 10) Q 0 m2) : rz_C xs xl 35 [.ref 16, .ref 21, .ref 23, .int (rz_mo z 4)] (rz_w v a g) (fun q w' => (∃ u : Int32, (u = 0 ∨ u = 1) ∧ (u = 1 ↔ rz_ag (rz_sq R p m) (rz_sq Q 0 m2) z) ∧ q = .inl (some (.int u))) ∧ ∃ L', L' < 4096 ∧ w' = rz_w (rz_up v 8 (Int32.ofNat L')) a g) := by
  obtain ⟨S, hS, rfl⟩ := hz
  refine ev_ps 2 rfl ?_
  refine ev_loop (α := Nat × Option Value × Option Value × Option Value) (fun q => 4096 - q.1) (fun q => q.1 ≤ 4096 ∧ ∀ i, i < q.1 → ∀ k, 1 ≤ k → k < 4 → rz_on (Int32.ofNat S) k → rz_sq R p m (rz_bg ((L + i * 1237) % 4096)) k = rz_sq Q 0 m2 (rz_bg ((L + i * 1237) % 4096)) k) (fun q => [some (.ref 16), some (.ref 21), some (.ref 23), some (.int (rz_mo (Int32.ofNat S) 4)), some (.int (Int32.ofNat q.1)), q.2.1, q.2.2.1, q.2.2.2]) (fun _ => []) (fun _ => rz_w v a g) ?_ (0, none, none, none) ⟨Nat.zero_le _, fun i hi => absurd hi (Nat.not_lt_zero _)⟩
  rintro ⟨k, t5, t6, t7⟩ ⟨hk, hall⟩ ih
  dsimp only at hk hall ih ⊢
  refine ev_ps 2 rfl (ev_ic (cd := .ge) rfl (fun h => ?_) (fun h => ?_))
  · have hk4 : 4096 ≤ k := rn_ge_t (k := 4096) (by omega) (by omega) h
    refine ev_ps 1 rfl (ev_ret rfl rfl ⟨⟨1, Or.inr rfl, ⟨fun _ => ?_, fun _ => rfl⟩, rfl⟩, L, hL, by rw [← h8]; rfl⟩)
    intro s hs j j1 j2 j3
    obtain ⟨i, hi, e⟩ := rz_cover hL hs
    rw [← e]
    exact hall i (by omega) j j1 j2 j3
  · have hk' : k < 4096 := rn_ge_f (k := 4096) (by omega) (by omega) h
    have hs : (L + k * 1237) % 4096 < 4096 := by omega
    have eN : v 8 + Int32.ofNat k * 1237 - (v 8 + Int32.ofNat k * 1237) / 4096 * 4096 = Int32.ofNat ((L + k * 1237) % 4096) := by
      have e1 : v 8 + Int32.ofNat k * 1237 = Int32.ofNat (L + k * 1237) := by
        rw [h8, show Int32.ofNat k * 1237 = Int32.ofNat (k * 1237) from (Int32.ofNat_mul k 1237).symm, rz_add]
      rw [e1]
      exact rz_rem (by omega)
    refine ev_ps 9 rfl ?_
    refine ev_l (L2 := [some (.ref 16), some (.ref 21), some (.ref 23), some (.int (rz_mo (Int32.ofNat S) 4)), some (.int (Int32.ofNat k)), some (.int (Int32.ofNat ((L + k * 1237) % 4096))), t6, t7]) (by rw [← eN]; rfl) ?_
    generalize hsd : (L + k * 1237) % 4096 = s at hs ⊢
    have hrg : rz_rg (Int32.ofNat s <<< (4 &&& 31)) (rz_bg s) := ⟨rfl, fun j hj => rz_bg_vl hs hj⟩
    refine ev_ps 6 rfl ?_
    refine ev_call (av := [_, _]) rfl rfl rfl rfl ⟨Nat.le_of_ble_eq_true rfl, rfl⟩ ⟨Nat.le_of_ble_eq_true rfl, Nat.le_of_ble_eq_true rfl⟩ (y_rowRegs_21 h1 hm hr1 hrg) ?_
    rintro _ _ ⟨⟨u1, rfl, hu1⟩, rfl⟩
    refine ev_ps 2 rfl (ev_call (av := [_, _]) rfl rfl rfl rfl ⟨Nat.le_of_ble_eq_true rfl, rfl⟩ ⟨Nat.le_of_ble_eq_true rfl, Nat.le_of_ble_eq_true rfl⟩ (y_rowRegs_23 (R := Q) h2 hm2 hr2 hrg) ?_)
    rintro _ _ ⟨⟨u2, rfl, hu2⟩, rfl⟩
    have hiff : ((u1 ^^^ u2) &&& rz_mo (Int32.ofNat S) 4 = 0) ↔ ∀ j, 1 ≤ j → j < 4 → rz_on (Int32.ofNat S) j → rz_sq R p m (rz_bg s) j = rz_sq Q 0 m2 (rz_bg s) j := by
      rw [rz_cmp0 hS]
      constructor
      · intro h j j1 j2 j3
        rw [← hu1.2 j j2, ← hu2.2 j j2]
        exact h j j2 j3
      · intro h j j2 j3
        rw [hu1.2 j j2, hu2.2 j j2]
        rcases Nat.eq_zero_or_pos j with rfl | j1
        · rw [hu1.1, hu2.1]
        · exact h j j1 j2 j3
    refine ev_ps 5 rfl (ev_if (cd := .eq) rfl (fun h => ?_) (fun h => ?_))
    · have hag := hiff.mp (rc_eq_t h)
      have h9 := fun t5 t6 t7 => ih (k + 1, t5, t6, t7) ⟨by show k + 1 ≤ 4096; omega, fun i hi => by
        by_cases hik : i = k
        · rw [hik, hsd]; exact hag
        · exact hall i (by have : i < k + 1 := hi; omega)⟩ (by show 4096 - (k + 1) < 4096 - k; omega)
      dsimp only at h9
      rw [← rz_succ k] at h9
      exact ev_ps 2 rfl (h9 _ _ _)
    · refine ev_ps 4 rfl (ev_ret rfl rfl ⟨⟨0, Or.inl rfl, ⟨fun q => absurd q (by decide), fun q => ?_⟩, rfl⟩, s, hs, rfl⟩)
      exact absurd (hiff.mpr (fun j j1 j2 j3 => q s hs j j1 j2 j3)) (rc_eq_f h)
theorem y_nothingDoes {p m L l : Nat} {z : Int32} (hz : ∃ S, S < 16 ∧ z = Int32.ofNat S) (h1 : v 11 = Int32.ofNat m) (hm : m ≤ 3) (h8 : v 8 = Int32.ofNat L) (hL : L < 4096) (h15 : v 15 = Int32.ofNat l) (hr1 : rz_rcd (a 9) R p m) : rz_C xs xl 33 [.ref 13, .int (rz_mo z 4)] (rz_w v a g) (fun q w' => (∃ u : Int32, (u = 0 ∨ u = 1) ∧ (u = 1 ↔ rz_nd R p m z) ∧ q = .inl (some (.int u))) ∧ ∃ L', L' < 4096 ∧ w' = rz_w (rz_up (rz_up (rz_up v 12 0) 15 (Int32.ofNat (l + 1))) 8 (Int32.ofNat L')) a g) := by
  refine ev_ps 2 rfl (ev_call (av := [_]) rfl rfl rfl rfl ⟨Nat.le_of_ble_eq_true rfl, rfl⟩ ⟨Nat.le_of_ble_eq_true rfl, Nat.le_of_ble_eq_true rfl⟩ (c_takeNothing_23) ?_)
  rintro _ _ ⟨rfl, rfl⟩
  refine ev_ps 6 rfl (ev_w (w2 := rz_w (rz_up (rz_up v 12 0) 15 (Int32.ofNat (l + 1))) a g) (by rw [← rz_succ l, ← h15]; rfl) ?_)
  refine ev_ps 7 rfl (ev_call (av := [_, _, _, _]) rfl rfl rfl rfl ⟨Nat.le_of_ble_eq_true rfl, rfl⟩ ⟨Nat.le_of_ble_eq_true rfl, Nat.le_of_ble_eq_true rfl⟩ (y_agree_16 (Q := R) (m2 := 0) hz h1 hm rfl (by omega) h8 hL hr1 (fun i hi => absurd hi (Nat.not_lt_zero _))) ?_)
  rintro _ _ ⟨⟨u, hu, hui, rfl⟩, L', hL', rfl⟩
  exact ev_ret rfl (show (if u = 0 ∨ u = 1 then some (some (Value.int u)) else none) = _ from if_pos hu) ⟨⟨u, hu, hui, rfl⟩, L', hL', rfl⟩
theorem y_firstInstruction {p m L0 l : Nat} {z : Int32} (hz : ∃ S, S < 16 ∧ z = Int32.ofNat S) (h1 : v 11 = Int32.ofNat m) (hm : m ≤ 3) (h8 : v 8 = Int32.ofNat L0) (hL0 : L0 < 4096) (h15 : v 15 = Int32.ofNat l) (hr1 : rz_rcd (a 9) R p m) : rz_C xs xl 39 [.ref 13, .int (rz_mo z 4)] (rz_w v a g) (fun q w' => ∃ (j L : Nat) (c : Int32) (f : Nat → Int32), j ≤ 1920 ∧ (∀ i, i < j → ¬ rz_ht R p m z i) ∧ (j < 1920 → rz_ht R p m z j) ∧ q = .inl (some (.int (if j < 1920 then rz_pk (rz_cq j) else -2))) ∧ L < 4096 ∧ w' = (rz_w (rz_up (rz_up (rz_up v 12 c) 15 (Int32.ofNat (l + rz_ct (rz_ch R p m) (if j < 1920 then j + 1 else 1920)))) 8 (Int32.ofNat L)) (rz_ua a 10 f) g)) := by
  refine ev_ps 3 rfl (ev_call (av := [_]) rfl rfl rfl rfl ⟨Nat.le_of_ble_eq_true rfl, rfl⟩ ⟨Nat.le_of_ble_eq_true rfl, Nat.le_of_ble_eq_true rfl⟩ (y_numbers h1 hm hr1) ?_)
  rintro _ _ ⟨⟨N0, rfl, hN0⟩, rfl⟩
  refine ev_ps 4 rfl ?_
  have hU : ∀ t, t < 16 → ((((32771 : Int32) ||| N0) >>> (Int32.ofNat t &&& 31)) &&& 1 = 1 ↔ rz_cd R p m t) := fun t ht => by
    have key : ∀ t, t < 16 → rz_b 32771 t = (decide (t = 0) || decide (t = 1) || decide (t = 15)) := by decide +kernel
    rw [rz_on_b ht, rz_b_or, key t ht, Bool.or_eq_true, hN0 t ht]
    unfold rz_cd
    simp only [Bool.or_eq_true, decide_eq_true_eq]
    constructor
    · rintro (((h | h) | h) | h)
      · exact Or.inl h
      · exact Or.inr (Or.inl h)
      · exact Or.inr (Or.inr (Or.inl h))
      · exact Or.inr (Or.inr (Or.inr h))
    · rintro (h | h | h | h)
      · exact Or.inl (Or.inl (Or.inl h))
      · exact Or.inl (Or.inl (Or.inr h))
      · exact Or.inl (Or.inr h)
      · exact Or.inr h
  suffices H : ∀ U : Int32, (∀ t, t < 16 → ((U >>> (Int32.ofNat t &&& 31)) &&& 1 = 1 ↔ rz_cd R p m t)) → rz_E xs xl 39 13 [some (.ref 13), some (.int (rz_mo z 4)), some (.int U), some (.int (Int32.ofNat 0)), none, none, none, none, none] [] (rz_w v a g) 0 0 (fun q w' => ∃ (j L : Nat) (c : Int32) (f : Nat → Int32), j ≤ 1920 ∧ (∀ i, i < j → ¬ rz_ht R p m z i) ∧ (j < 1920 → rz_ht R p m z j) ∧ q = .inl (some (.int (if j < 1920 then rz_pk (rz_cq j) else -2))) ∧ L < 4096 ∧ w' = (rz_w (rz_up (rz_up (rz_up v 12 c) 15 (Int32.ofNat (l + rz_ct (rz_ch R p m) (if j < 1920 then j + 1 else 1920)))) 8 (Int32.ofNat L)) (rz_ua a 10 f) g)) from H _ hU
  clear hU hN0
  intro U hU
  have Lt : ∀ (o i j : Nat) (ch : Int32) (B : Nat), o < 10 → 1 ≤ i → i < 4 → j < 4 → B = o * 192 + (i - 1) * 64 + j * 16 → (∀ t, t < 16 → ∀ N, N / 192 = o → N % 16 = t → ((ch >>> (Int32.ofNat t &&& 31)) &&& 1 = 1 ↔ rz_ch R p m N)) → (∀ (t7 t8 : Option Value) (L : Nat) (c : Int32) (f : Nat → Int32) (N : Nat), N = B + 16 → L < 4096 → (∀ x, x < N → ¬ rz_ht R p m z x) → rz_E xs xl 39 130 [some (.ref 13), some (.int (rz_mo z 4)), some (.int U), some (.int (Int32.ofNat o)), some (.int ch), some (.int (Int32.ofNat i)), some (.int (Int32.ofNat j)), t7, t8] [] (rz_w (rz_up (rz_up (rz_up v 12 c) 15 (Int32.ofNat (l + rz_ct (rz_ch R p m) N))) 8 (Int32.ofNat L)) (rz_ua a 10 f) g) 0 0 (fun q w' => ∃ (j L : Nat) (c : Int32) (f : Nat → Int32), j ≤ 1920 ∧ (∀ i, i < j → ¬ rz_ht R p m z i) ∧ (j < 1920 → rz_ht R p m z j) ∧ q = .inl (some (.int (if j < 1920 then rz_pk (rz_cq j) else -2))) ∧ L < 4096 ∧ w' = (rz_w (rz_up (rz_up (rz_up v 12 c) 15 (Int32.ofNat (l + rz_ct (rz_ch R p m) (if j < 1920 then j + 1 else 1920)))) 8 (Int32.ofNat L)) (rz_ua a 10 f) g))) → ∀ (t8 : Option Value) (L : Nat) (c : Int32) (f : Nat → Int32) (N : Nat), N = B → L < 4096 → (∀ x, x < N → ¬ rz_ht R p m z x) → rz_E xs xl 39 53 [some (.ref 13), some (.int (rz_mo z 4)), some (.int U), some (.int (Int32.ofNat o)), some (.int ch), some (.int (Int32.ofNat i)), some (.int (Int32.ofNat j)), some (.int (Int32.ofNat 0)), t8] [] (rz_w (rz_up (rz_up (rz_up v 12 c) 15 (Int32.ofNat (l + rz_ct (rz_ch R p m) N))) 8 (Int32.ofNat L)) (rz_ua a 10 f) g) 0 0 (fun q w' => ∃ (j L : Nat) (c : Int32) (f : Nat → Int32), j ≤ 1920 ∧ (∀ i, i < j → ¬ rz_ht R p m z i) ∧ (j < 1920 → rz_ht R p m z j) ∧ q = .inl (some (.int (if j < 1920 then rz_pk (rz_cq j) else -2))) ∧ L < 4096 ∧ w' = (rz_w (rz_up (rz_up (rz_up v 12 c) 15 (Int32.ofNat (l + rz_ct (rz_ch R p m) (if j < 1920 then j + 1 else 1920)))) 8 (Int32.ofNat L)) (rz_ua a 10 f) g)) := by
    intro o i j ch B ho hi1 hi hj hB hch hK t8 L c f N hN hL hno
    refine ev_loop (α := Nat × Option Value × Nat × Int32 × (Nat → Int32) × Nat) (fun q => 16 - q.1) (fun q => q.1 ≤ 16 ∧ q.2.2.2.2.2 = B + q.1 ∧ q.2.2.1 < 4096 ∧ ∀ x, x < q.2.2.2.2.2 → ¬ rz_ht R p m z x) (fun q => [some (.ref 13), some (.int (rz_mo z 4)), some (.int U), some (.int (Int32.ofNat o)), some (.int ch), some (.int (Int32.ofNat i)), some (.int (Int32.ofNat j)), some (.int (Int32.ofNat q.1)), q.2.1]) (fun _ => []) (fun q => (rz_w (rz_up (rz_up (rz_up v 12 q.2.2.2.1) 15 (Int32.ofNat (l + rz_ct (rz_ch R p m) q.2.2.2.2.2))) 8 (Int32.ofNat q.2.2.1)) (rz_ua a 10 q.2.2.2.2.1) g)) ?_ (0, t8, L, c, f, N) ⟨Nat.zero_le _, hN, hL, hno⟩
    clear hN hL hno
    clear t8 L c f N
    rintro ⟨k, t8, L, c, f, N⟩ ⟨hk, hN, hL, hno⟩ ih
    dsimp only at hk hN hL hno ih ⊢
    have next : k < 16 → ¬ rz_ht R p m z N → ∀ (t8 : Option Value) (L : Nat) (c : Int32) (f : Nat → Int32), L < 4096 → rz_E xs xl 39 124 [some (.ref 13), some (.int (rz_mo z 4)), some (.int U), some (.int (Int32.ofNat o)), some (.int ch), some (.int (Int32.ofNat i)), some (.int (Int32.ofNat j)), some (.int (Int32.ofNat k)), t8] [] (rz_w (rz_up (rz_up (rz_up v 12 c) 15 (Int32.ofNat (l + rz_ct (rz_ch R p m) (N + 1)))) 8 (Int32.ofNat L)) (rz_ua a 10 f) g) 0 0 (fun q w' => ∃ (j L : Nat) (c : Int32) (f : Nat → Int32), j ≤ 1920 ∧ (∀ i, i < j → ¬ rz_ht R p m z i) ∧ (j < 1920 → rz_ht R p m z j) ∧ q = .inl (some (.int (if j < 1920 then rz_pk (rz_cq j) else -2))) ∧ L < 4096 ∧ w' = (rz_w (rz_up (rz_up (rz_up v 12 c) 15 (Int32.ofNat (l + rz_ct (rz_ch R p m) (if j < 1920 then j + 1 else 1920)))) 8 (Int32.ofNat L)) (rz_ua a 10 f) g)) := fun hk' hnt t8 L c f hL => by
      have h9 := ih (k + 1, t8, L, c, f, N + 1) ⟨by show k + 1 ≤ 16; omega, by show N + 1 = B + (k + 1); omega, hL, fun x hx => by
        by_cases hxN : x = N
        · rw [hxN]; exact hnt
        · exact hno x (by have : x < N + 1 := hx; omega)⟩ (by show 16 - (k + 1) < 16 - k; omega)
      dsimp only at h9
      rw [← rz_succ k] at h9
      exact ev_ps 2 rfl h9
    refine ev_ps 2 rfl (ev_ic (cd := .gt) rfl (fun h => ?_) (fun h => ?_))
    · have : 15 < k := rn_gt_t (k := 15) (by omega) (by omega) h
      exact hK _ _ _ _ _ _ (by omega) hL hno
    have hk' : k < 16 := by
      have : k ≤ 15 := rn_gt_f (k := 15) (by omega) (by omega) h
      omega
    have hNo : N / 192 = o := by omega
    have hNk : N % 16 = k := by omega
    have hN1 : N < 1920 := by omega
    have hcq : rz_cq N = (o, i, j, k) := by
      unfold rz_cq
      rw [hNo, hNk, show 1 + N / 64 % 3 = i by omega, show N / 16 % 4 = j by omega]
    have hci := hch k hk' N hNo hNk
    refine ev_ps 6 rfl (ev_ic (cd := .ne) rfl (fun h => ?_) (fun h => ?_))
    · have hnc : ¬ rz_ch R p m N := fun q => rc_ne_t h (hci.mpr q)
      have h9 := next hk' (fun q => hnc q.1) t8 L c f hL
      rw [rz_ct, rz_dc_f hnc] at h9
      exact h9
    have hyc : rz_ch R p m N := hci.mp (rc_ne_f h)
    have hlg := rz_ch_lg hN1 hyc
    refine ev_ps 4 rfl (ev_call (av := [_, _, _, _]) rfl rfl rfl rfl ⟨Nat.le_of_ble_eq_true rfl, rfl⟩ ⟨Nat.le_of_ble_eq_true rfl, Nat.le_of_ble_eq_true rfl⟩ (c_pack _ _ _ _) ?_)
    rintro _ _ ⟨rfl, rfl⟩
    rw [show (Int32.ofNat o <<< 9 ||| Int32.ofNat i <<< 7 ||| Int32.ofNat j <<< 5 ||| Int32.ofNat k) = rz_pk (rz_cq N) from by rw [hcq]; rfl]
    refine ev_ps 4 rfl (ev_call (av := [_, _]) rfl rfl rfl rfl ⟨Nat.le_of_ble_eq_true rfl, rfl⟩ ⟨Nat.le_of_ble_eq_true rfl, Nat.le_of_ble_eq_true rfl⟩ (y_takeOne_23 _) ?_)
    rintro _ _ ⟨rfl, f2, rfl, hf2⟩
    have ecount : Int32.ofNat (l + rz_ct (rz_ch R p m) N) + Int32.ofInt 1 = Int32.ofNat (l + rz_ct (rz_ch R p m) (N + 1)) := by
      rw [rz_ct, rz_dc_t hyc, if_pos rfl, ← Nat.add_assoc]
      exact rz_succ _
    refine ev_ps 6 rfl (ev_w (w2 := (rz_w (rz_up (rz_up (rz_up v 12 1) 15 (Int32.ofNat (l + rz_ct (rz_ch R p m) (N + 1)))) 8 (Int32.ofNat L)) (rz_ua a 10 f2) g)) (by rw [← ecount]; rfl) ?_)
    have hr2 : rz_rcd f2 (fun _ => rz_cq N) 0 1 := fun i hi => by
      have e0 : i = 0 := by omega
      subst e0
      exact ⟨hf2, hlg, by show (rz_cq N).1 ≤ 9; rw [hcq]; show o ≤ 9; omega⟩
    refine ev_ps 7 rfl (ev_call (av := [_, _, _, _]) rfl rfl rfl rfl ⟨Nat.le_of_ble_eq_true rfl, rfl⟩ ⟨Nat.le_of_ble_eq_true rfl, Nat.le_of_ble_eq_true rfl⟩ (y_agree_16 (v := rz_up (rz_up (rz_up v 12 1) 15 (Int32.ofNat (l + rz_ct (rz_ch R p m) (N + 1)))) 8 (Int32.ofNat L)) (a := rz_ua a 10 f2) (R := R) (p := p) (m := m) (m2 := 1) (L := L) (Q := fun _ => rz_cq N) hz h1 hm rfl (by omega) rfl hL hr1 hr2) ?_)
    rintro _ _ ⟨⟨u, hu, hui, rfl⟩, L2, hL2, rfl⟩
    refine ev_w (w2 := (rz_w (rz_up (rz_up (rz_up v 12 1) 15 (Int32.ofNat (l + rz_ct (rz_ch R p m) (N + 1)))) 8 (Int32.ofNat L2)) (rz_ua a 10 f2) g)) rfl ?_
    refine ev_if (cd := .eq) rfl (fun h => next hk' (fun q => ?_) _ _ _ _ hL2) (fun h => ?_)
    · exact absurd ((rc_eq_t h).symm.trans (hui.mpr q.2)) (by decide)
    · refine ev_ps 1 rfl (ev_ret rfl rfl ⟨N, L2, 1, f2, by omega, hno, fun _ => ⟨hyc, hui.mp (hu.resolve_left (rc_eq_f h))⟩, ?_, hL2, ?_⟩)
      · rw [if_pos hN1]
      · rw [if_pos hN1]
  have Ls : ∀ (o i : Nat) (ch : Int32) (B : Nat), o < 10 → 1 ≤ i → i < 4 → B = o * 192 + (i - 1) * 64 → (∀ t, t < 16 → ∀ N, N / 192 = o → N % 16 = t → ((ch >>> (Int32.ofNat t &&& 31)) &&& 1 = 1 ↔ rz_ch R p m N)) → (∀ (t6 t7 t8 : Option Value) (L : Nat) (c : Int32) (f : Nat → Int32) (N : Nat), N = B + 64 → L < 4096 → (∀ x, x < N → ¬ rz_ht R p m z x) → rz_E xs xl 39 136 [some (.ref 13), some (.int (rz_mo z 4)), some (.int U), some (.int (Int32.ofNat o)), some (.int ch), some (.int (Int32.ofNat i)), t6, t7, t8] [] (rz_w (rz_up (rz_up (rz_up v 12 c) 15 (Int32.ofNat (l + rz_ct (rz_ch R p m) N))) 8 (Int32.ofNat L)) (rz_ua a 10 f) g) 0 0 (fun q w' => ∃ (j L : Nat) (c : Int32) (f : Nat → Int32), j ≤ 1920 ∧ (∀ i, i < j → ¬ rz_ht R p m z i) ∧ (j < 1920 → rz_ht R p m z j) ∧ q = .inl (some (.int (if j < 1920 then rz_pk (rz_cq j) else -2))) ∧ L < 4096 ∧ w' = (rz_w (rz_up (rz_up (rz_up v 12 c) 15 (Int32.ofNat (l + rz_ct (rz_ch R p m) (if j < 1920 then j + 1 else 1920)))) 8 (Int32.ofNat L)) (rz_ua a 10 f) g))) → ∀ (t7 t8 : Option Value) (L : Nat) (c : Int32) (f : Nat → Int32) (N : Nat), N = B → L < 4096 → (∀ x, x < N → ¬ rz_ht R p m z x) → rz_E xs xl 39 44 [some (.ref 13), some (.int (rz_mo z 4)), some (.int U), some (.int (Int32.ofNat o)), some (.int ch), some (.int (Int32.ofNat i)), some (.int (Int32.ofNat 0)), t7, t8] [] (rz_w (rz_up (rz_up (rz_up v 12 c) 15 (Int32.ofNat (l + rz_ct (rz_ch R p m) N))) 8 (Int32.ofNat L)) (rz_ua a 10 f) g) 0 0 (fun q w' => ∃ (j L : Nat) (c : Int32) (f : Nat → Int32), j ≤ 1920 ∧ (∀ i, i < j → ¬ rz_ht R p m z i) ∧ (j < 1920 → rz_ht R p m z j) ∧ q = .inl (some (.int (if j < 1920 then rz_pk (rz_cq j) else -2))) ∧ L < 4096 ∧ w' = (rz_w (rz_up (rz_up (rz_up v 12 c) 15 (Int32.ofNat (l + rz_ct (rz_ch R p m) (if j < 1920 then j + 1 else 1920)))) 8 (Int32.ofNat L)) (rz_ua a 10 f) g)) := by
    intro o i ch B ho hi1 hi hB hch hK t7 t8 L c f N hN hL hno
    refine ev_loop (α := Nat × Option Value × Option Value × Nat × Int32 × (Nat → Int32) × Nat) (fun q => 4 - q.1) (fun q => q.1 ≤ 4 ∧ q.2.2.2.2.2.2 = B + q.1 * 16 ∧ q.2.2.2.1 < 4096 ∧ ∀ x, x < q.2.2.2.2.2.2 → ¬ rz_ht R p m z x) (fun q => [some (.ref 13), some (.int (rz_mo z 4)), some (.int U), some (.int (Int32.ofNat o)), some (.int ch), some (.int (Int32.ofNat i)), some (.int (Int32.ofNat q.1)), q.2.1, q.2.2.1]) (fun _ => []) (fun q => (rz_w (rz_up (rz_up (rz_up v 12 q.2.2.2.2.1) 15 (Int32.ofNat (l + rz_ct (rz_ch R p m) q.2.2.2.2.2.2))) 8 (Int32.ofNat q.2.2.2.1)) (rz_ua a 10 q.2.2.2.2.2.1) g)) ?_ (0, t7, t8, L, c, f, N) ⟨Nat.zero_le _, by show N = B + 0 * 16; omega, hL, hno⟩
    clear hN hL hno
    clear t7 t8 L c f N
    rintro ⟨k, t7, t8, L, c, f, N⟩ ⟨hk, hN, hL, hno⟩ ih
    dsimp only at hk hN hL hno ih ⊢
    refine ev_ps 2 rfl (ev_ic (cd := .ge) rfl (fun h => ?_) (fun h => ?_))
    · have : 4 ≤ k := rn_ge_t (k := 4) (by omega) (by omega) h
      exact hK _ _ _ _ _ _ _ (by omega) hL hno
    have hk' : k < 4 := rn_ge_f (k := 4) (by omega) (by omega) h
    refine ev_ps 2 rfl (Lt o i k ch N ho hi1 hi hk' (by omega) hch (fun t7 t8 L c f N' hN' hL hno => ?_) _ _ _ _ _ rfl hL hno)
    have h9 := ih (k + 1, t7, t8, L, c, f, N') ⟨by show k + 1 ≤ 4; omega, by show N' = B + (k + 1) * 16; omega, hL, hno⟩ (by show 4 - (k + 1) < 4 - k; omega)
    dsimp only at h9
    rw [← rz_succ k] at h9
    exact ev_ps 2 rfl h9
  have Ld : ∀ (o : Nat) (ch : Int32) (B : Nat), o < 10 → B = o * 192 → (∀ t, t < 16 → ∀ N, N / 192 = o → N % 16 = t → ((ch >>> (Int32.ofNat t &&& 31)) &&& 1 = 1 ↔ rz_ch R p m N)) → (∀ (t5 t6 t7 t8 : Option Value) (L : Nat) (c : Int32) (f : Nat → Int32) (N : Nat), N = B + 192 → L < 4096 → (∀ x, x < N → ¬ rz_ht R p m z x) → rz_E xs xl 39 142 [some (.ref 13), some (.int (rz_mo z 4)), some (.int U), some (.int (Int32.ofNat o)), some (.int ch), t5, t6, t7, t8] [] (rz_w (rz_up (rz_up (rz_up v 12 c) 15 (Int32.ofNat (l + rz_ct (rz_ch R p m) N))) 8 (Int32.ofNat L)) (rz_ua a 10 f) g) 0 0 (fun q w' => ∃ (j L : Nat) (c : Int32) (f : Nat → Int32), j ≤ 1920 ∧ (∀ i, i < j → ¬ rz_ht R p m z i) ∧ (j < 1920 → rz_ht R p m z j) ∧ q = .inl (some (.int (if j < 1920 then rz_pk (rz_cq j) else -2))) ∧ L < 4096 ∧ w' = (rz_w (rz_up (rz_up (rz_up v 12 c) 15 (Int32.ofNat (l + rz_ct (rz_ch R p m) (if j < 1920 then j + 1 else 1920)))) 8 (Int32.ofNat L)) (rz_ua a 10 f) g))) → ∀ (t6 t7 t8 : Option Value) (L : Nat) (c : Int32) (f : Nat → Int32) (N : Nat), N = B → L < 4096 → (∀ x, x < N → ¬ rz_ht R p m z x) → rz_E xs xl 39 35 [some (.ref 13), some (.int (rz_mo z 4)), some (.int U), some (.int (Int32.ofNat o)), some (.int ch), some (.int (Int32.ofNat 1)), t6, t7, t8] [] (rz_w (rz_up (rz_up (rz_up v 12 c) 15 (Int32.ofNat (l + rz_ct (rz_ch R p m) N))) 8 (Int32.ofNat L)) (rz_ua a 10 f) g) 0 0 (fun q w' => ∃ (j L : Nat) (c : Int32) (f : Nat → Int32), j ≤ 1920 ∧ (∀ i, i < j → ¬ rz_ht R p m z i) ∧ (j < 1920 → rz_ht R p m z j) ∧ q = .inl (some (.int (if j < 1920 then rz_pk (rz_cq j) else -2))) ∧ L < 4096 ∧ w' = (rz_w (rz_up (rz_up (rz_up v 12 c) 15 (Int32.ofNat (l + rz_ct (rz_ch R p m) (if j < 1920 then j + 1 else 1920)))) 8 (Int32.ofNat L)) (rz_ua a 10 f) g)) := by
    intro o ch B ho hB hch hK t6 t7 t8 L c f N hN hL hno
    refine ev_loop (α := Nat × Option Value × Option Value × Option Value × Nat × Int32 × (Nat → Int32) × Nat) (fun q => 4 - q.1) (fun q => 1 ≤ q.1 ∧ q.1 ≤ 4 ∧ q.2.2.2.2.2.2.2 = B + (q.1 - 1) * 64 ∧ q.2.2.2.2.1 < 4096 ∧ ∀ x, x < q.2.2.2.2.2.2.2 → ¬ rz_ht R p m z x) (fun q => [some (.ref 13), some (.int (rz_mo z 4)), some (.int U), some (.int (Int32.ofNat o)), some (.int ch), some (.int (Int32.ofNat q.1)), q.2.1, q.2.2.1, q.2.2.2.1]) (fun _ => []) (fun q => (rz_w (rz_up (rz_up (rz_up v 12 q.2.2.2.2.2.1) 15 (Int32.ofNat (l + rz_ct (rz_ch R p m) q.2.2.2.2.2.2.2))) 8 (Int32.ofNat q.2.2.2.2.1)) (rz_ua a 10 q.2.2.2.2.2.2.1) g)) ?_ (1, t6, t7, t8, L, c, f, N) ⟨Nat.le_refl _, by show 1 ≤ 4; omega, by show N = B + (1 - 1) * 64; omega, hL, hno⟩
    clear hN hL hno
    clear t6 t7 t8 L c f N
    rintro ⟨k, t6, t7, t8, L, c, f, N⟩ ⟨hk1, hk, hN, hL, hno⟩ ih
    dsimp only at hk1 hk hN hL hno ih ⊢
    refine ev_ps 2 rfl (ev_ic (cd := .ge) rfl (fun h => ?_) (fun h => ?_))
    · have : 4 ≤ k := rn_ge_t (k := 4) (by omega) (by omega) h
      exact hK _ _ _ _ _ _ _ _ (by omega) hL hno
    have hk' : k < 4 := rn_ge_f (k := 4) (by omega) (by omega) h
    refine ev_ps 2 rfl (Ls o k ch N ho hk1 hk' (by omega) hch (fun t6 t7 t8 L c f N' hN' hL hno => ?_) _ _ _ _ _ _ rfl hL hno)
    have h9 := ih (k + 1, t6, t7, t8, L, c, f, N') ⟨by show 1 ≤ k + 1; omega, by show k + 1 ≤ 4; omega, by show N' = B + (k + 1 - 1) * 64; omega, hL, hno⟩ (by show 4 - (k + 1) < 4 - k; omega)
    dsimp only at h9
    rw [← rz_succ k] at h9
    exact ev_ps 2 rfl h9
  have Lo : ∀ (t4 t5 t6 t7 t8 : Option Value) (L : Nat) (c : Int32) (f : Nat → Int32) (N : Nat), N = 0 → L < 4096 → (∀ x, x < N → ¬ rz_ht R p m z x) → rz_E xs xl 39 13 [some (.ref 13), some (.int (rz_mo z 4)), some (.int U), some (.int (Int32.ofNat 0)), t4, t5, t6, t7, t8] [] (rz_w (rz_up (rz_up (rz_up v 12 c) 15 (Int32.ofNat (l + rz_ct (rz_ch R p m) N))) 8 (Int32.ofNat L)) (rz_ua a 10 f) g) 0 0 (fun q w' => ∃ (j L : Nat) (c : Int32) (f : Nat → Int32), j ≤ 1920 ∧ (∀ i, i < j → ¬ rz_ht R p m z i) ∧ (j < 1920 → rz_ht R p m z j) ∧ q = .inl (some (.int (if j < 1920 then rz_pk (rz_cq j) else -2))) ∧ L < 4096 ∧ w' = (rz_w (rz_up (rz_up (rz_up v 12 c) 15 (Int32.ofNat (l + rz_ct (rz_ch R p m) (if j < 1920 then j + 1 else 1920)))) 8 (Int32.ofNat L)) (rz_ua a 10 f) g)) := by
    intro t4 t5 t6 t7 t8 L c f N hN hL hno
    refine ev_loop (α := Nat × Option Value × Option Value × Option Value × Option Value × Option Value × Nat × Int32 × (Nat → Int32) × Nat) (fun q => 10 - q.1) (fun q => q.1 ≤ 10 ∧ q.2.2.2.2.2.2.2.2.2 = q.1 * 192 ∧ q.2.2.2.2.2.2.1 < 4096 ∧ ∀ x, x < q.2.2.2.2.2.2.2.2.2 → ¬ rz_ht R p m z x) (fun q => [some (.ref 13), some (.int (rz_mo z 4)), some (.int U), some (.int (Int32.ofNat q.1)), q.2.1, q.2.2.1, q.2.2.2.1, q.2.2.2.2.1, q.2.2.2.2.2.1]) (fun _ => []) (fun q => (rz_w (rz_up (rz_up (rz_up v 12 q.2.2.2.2.2.2.2.1) 15 (Int32.ofNat (l + rz_ct (rz_ch R p m) q.2.2.2.2.2.2.2.2.2))) 8 (Int32.ofNat q.2.2.2.2.2.2.1)) (rz_ua a 10 q.2.2.2.2.2.2.2.2.1) g)) ?_ (0, t4, t5, t6, t7, t8, L, c, f, N) ⟨Nat.zero_le _, by show N = 0 * 192; omega, hL, hno⟩
    clear hN hL hno
    clear t4 t5 t6 t7 t8 L c f N
    rintro ⟨k, t4, t5, t6, t7, t8, L, c, f, N⟩ ⟨hk, hN, hL, hno⟩ ih
    dsimp only at hk hN hL hno ih ⊢
    refine ev_ps 2 rfl (ev_ic (cd := .gt) rfl (fun h => ?_) (fun h => ?_))
    · have : 9 < k := rn_gt_t (k := 9) (by omega) (by omega) h
      have e : N = 1920 := by omega
      subst e
      exact ev_ps 1 rfl (ev_ret rfl rfl ⟨1920, L, c, f, Nat.le_refl _, hno, fun q => absurd q (by omega), rfl, hL, rfl⟩)
    · have hk' : k < 10 := by
        have : k ≤ 9 := rn_gt_f (k := 9) (by omega) (by omega) h
        omega
      have next : ∀ (t5 t6 t7 t8 : Option Value) (ch : Int32) (L : Nat) (c : Int32) (f : Nat → Int32) (N' : Nat), N' = N + 192 → L < 4096 → (∀ x, x < N' → ¬ rz_ht R p m z x) → rz_E xs xl 39 142 [some (.ref 13), some (.int (rz_mo z 4)), some (.int U), some (.int (Int32.ofNat k)), some (.int ch), t5, t6, t7, t8] [] (rz_w (rz_up (rz_up (rz_up v 12 c) 15 (Int32.ofNat (l + rz_ct (rz_ch R p m) N'))) 8 (Int32.ofNat L)) (rz_ua a 10 f) g) 0 0 (fun q w' => ∃ (j L : Nat) (c : Int32) (f : Nat → Int32), j ≤ 1920 ∧ (∀ i, i < j → ¬ rz_ht R p m z i) ∧ (j < 1920 → rz_ht R p m z j) ∧ q = .inl (some (.int (if j < 1920 then rz_pk (rz_cq j) else -2))) ∧ L < 4096 ∧ w' = (rz_w (rz_up (rz_up (rz_up v 12 c) 15 (Int32.ofNat (l + rz_ct (rz_ch R p m) (if j < 1920 then j + 1 else 1920)))) 8 (Int32.ofNat L)) (rz_ua a 10 f) g)) := fun t5 t6 t7 t8 ch L c f N' hN' hL hno => by
        have h9 := ih (k + 1, some (.int ch), t5, t6, t7, t8, L, c, f, N') ⟨by show k + 1 ≤ 10; omega, by show N' = (k + 1) * 192; omega, hL, hno⟩ (by show 10 - (k + 1) < 10 - k; omega)
        dsimp only at h9
        rw [← rz_succ k] at h9
        exact ev_ps 2 rfl h9
      refine ev_ps 2 rfl (ev_ic (cd := .gt) rfl (fun h => ?_) (fun h => ?_))
      · have h5 : 5 < k := rn_gt_t (k := 5) (by omega) (by omega) h
        refine ev_ps 4 rfl (Ld k U N hk' hN (fun t ht N' h1 h2 => ?_) (fun t5 t6 t7 t8 L c f N' => next t5 t6 t7 t8 U L c f N') _ _ _ _ _ _ _ rfl hL hno)
        rw [hU t ht]
        unfold rz_ch
        rw [if_neg (by omega), h2]
      · have h5 : k ≤ 5 := rn_gt_f (k := 5) (by omega) (by omega) h
        refine ev_ps 5 rfl (Ld k 15 N hk' hN (fun t ht N' h1 h2 => ?_) (fun t5 t6 t7 t8 L c f N' => next t5 t6 t7 t8 15 L c f N') _ _ _ _ _ _ _ rfl hL hno)
        have key : ∀ t, t < 16 → (((15 : Int32) >>> (Int32.ofNat t &&& 31)) &&& 1 = 1 ↔ t < 4) := by decide +kernel
        rw [key t ht]
        unfold rz_ch
        rw [if_pos (by omega), h2]
  exact ev_w (w2 := (rz_w (rz_up (rz_up (rz_up v 12 (v 12)) 15 (Int32.ofNat (l + rz_ct (rz_ch R p m) 0))) 8 (Int32.ofNat L0)) (rz_ua a 10 (a 10)) g)) (by
    rw [show Int32.ofNat (l + rz_ct (rz_ch R p m) 0) = v 15 from by rw [h15]; rfl, ← h8]; rfl) (Lo _ _ _ _ _ _ _ _ 0 rfl hL0 (fun x hx => absurd hx (Nat.not_lt_zero _)))
end RZY4
