/-! the class, exactly: liveness -/
section RZY3
variable {xs : Nat → Int32} {xl : Nat} {v : Nat → Int32} {a : Nat → Nat → Int32} {g : Nat → Int64} {R : Nat → rz_Q} {n : Nat}
theorem rz_e1 : ∀ s, s < 4 → ∀ t, t < 4 → ∀ d, d < 4 → ∀ i, i < 8 → (((1 <<< (Int32.ofNat s &&& 31)) ||| (1 <<< (Int32.ofNat t &&& 31))) ||| (Int32.ofNat (2 * i) &&& ((1 <<< (Int32.ofNat d &&& 31)) ^^^ Int32.ofInt (-1)))) &&& 14 = (rz_bit (Int32.ofNat s) ||| rz_bit (Int32.ofNat t)) ||| (Int32.ofNat (2 * i) &&& (rz_bit (Int32.ofNat d) ^^^ Int32.ofInt (-1))) := by decide +kernel
theorem rz_e2 : ∀ s, s < 4 → ∀ d, d < 4 → ∀ i, i < 8 → ((1 <<< (Int32.ofNat s &&& 31)) ||| (Int32.ofNat (2 * i) &&& ((1 <<< (Int32.ofNat d &&& 31)) ^^^ Int32.ofInt (-1)))) &&& 14 = rz_bit (Int32.ofNat s) ||| (Int32.ofNat (2 * i) &&& (rz_bit (Int32.ofNat d) ^^^ Int32.ofInt (-1))) := by decide +kernel
theorem rz_e3 : ∀ d, d < 4 → ∀ s, s < 4 → ∀ i, i < 8 → (((1 <<< (Int32.ofNat d &&& 31)) ||| (1 <<< (Int32.ofNat s &&& 31))) ||| (Int32.ofNat (2 * i) &&& (0 ^^^ Int32.ofInt (-1)))) &&& 14 = (rz_bit (Int32.ofNat d) ||| rz_bit (Int32.ofNat s)) ||| (Int32.ofNat (2 * i) &&& (0 ^^^ Int32.ofInt (-1))) := by decide +kernel
theorem rz_e4 : ∀ i, i < 8 → (0 ||| (Int32.ofNat (2 * i) &&& (0 ^^^ Int32.ofInt (-1)))) &&& 14 = (0 ||| Int32.ofNat (2 * i)) &&& (0 ^^^ Int32.ofInt (-1)) := by decide +kernel
theorem rz_e5 : ∀ i, i < 8 → (15 ||| (Int32.ofNat (2 * i) &&& (0 ^^^ Int32.ofInt (-1)))) &&& 14 = 14 ||| ((0 ||| 0) &&& (0 ^^^ Int32.ofInt (-1))) := by decide +kernel
theorem rz_ev {x : Int32} (h : rz_sb x 14) : ∃ i, i < 8 ∧ x = Int32.ofNat (2 * i) := by
  obtain ⟨i, hi, rfl, e⟩ := rz_14 h
  have key : ∀ i, i < 16 → Int32.ofNat i &&& 14 = Int32.ofNat i → i = 2 * (i / 2) := by decide +kernel
  exact ⟨i / 2, by omega, by rw [← key i hi e]⟩
/-- what lives behind an instruction, as the class has it -/
def rz_bh (n : Nat) (f : Nat → Int32) (q : rz_Q) (k : Nat) : Int32 := if q.1 = 14 then rz_at n f q.2.2.2 else if q.1 = 12 ∨ q.1 = 13 then rz_at n f (k + 1) ||| rz_at n f q.2.2.2 else rz_at n f (k + 1)
theorem rz_live_eq {f : Nat → Int32} {k : Nat} (hq : rz_lg (R k)) (hf : ∀ p, p < n → rz_sb (f p) 14) : (rz_rb (R k) ||| (rz_bh n f (R k) k &&& (rz_wb (R k) ^^^ Int32.ofInt (-1)))) &&& 14 = rz_Fp (rz_fam R) n f k := by
  have hB : rz_sb (rz_at n f (k + 1)) 14 := rz_at14 hf
  have hT : rz_sb (rz_at n f (R k).2.2.2) 14 := rz_at14 hf
  have eF : rz_Fp (rz_fam R) n f k = rz_rd (Int32.ofNat (R k).1) (Int32.ofNat (R k).2.1) (Int32.ofNat (R k).2.2.1) (Int32.ofNat (R k).2.2.2) ||| ((rz_b1 n f (Int32.ofNat (R k).1) k ||| rz_b2 n f (Int32.ofNat (R k).1) (Int32.ofNat (R k).2.2.2).toNatClampNeg) &&& (rz_wr (Int32.ofNat (R k).1) (Int32.ofNat (R k).2.1) ^^^ Int32.ofInt (-1))) := rfl
  rw [eF]
  generalize R k = q at hq hT ⊢
  obtain ⟨b1, b2, b3, b4, b5⟩ := hq
  rw [rz_clamp (k := q.2.2.2) (by omega)]
  have lt : ∀ c, c < 16 → (Int32.ofNat c < Int32.ofNat q.1 ↔ c < q.1) := fun c hc => rz_lt_iff (by omega) (by omega)
  have tl : ∀ c, c < 16 → (Int32.ofNat q.1 < Int32.ofNat c ↔ q.1 < c) := fun c hc => rz_lt_iff (by omega) (by omega)
  have eq : ∀ c, c < 16 → (Int32.ofNat q.1 = Int32.ofNat c ↔ q.1 = c) := fun c hc => rz_eq_iff (by omega) (by omega)
  have l5 := lt 5 (by omega); have l10 := lt 10 (by omega); have l13 := lt 13 (by omega); have l14 := lt 14 (by omega)
  have t12 := tl 12 (by omega); have e14 := eq 14 (by omega); have e15 := eq 15 (by omega)
  have ub1 : ∀ h : ¬ (q.1 = 14 ∨ q.1 = 15), rz_b1 n f (Int32.ofNat q.1) k = rz_at n f (k + 1) := fun h => by unfold rz_b1; rw [if_neg (fun z => h (z.imp e14.mp e15.mp))]
  have ub2 : ∀ h : ¬ (12 ≤ q.1 ∧ q.1 ≤ 14), rz_b2 n f (Int32.ofNat q.1) q.2.2.2 = 0 := fun h => by unfold rz_b2; rw [if_neg (fun z => h ⟨Nat.not_lt.mp (fun y => z.1 (t12.mpr y)), Nat.not_lt.mp (fun y => z.2 (l14.mpr y))⟩)]
  have ub2t : ∀ h : 12 ≤ q.1 ∧ q.1 ≤ 14, rz_b2 n f (Int32.ofNat q.1) q.2.2.2 = rz_at n f q.2.2.2 := fun h => by unfold rz_b2; rw [if_pos ⟨fun z => absurd (t12.mp z) (by omega), fun z => absurd (l14.mp z) (by omega)⟩]
  have uw : ∀ h : q.1 ≤ 10, rz_wr (Int32.ofNat q.1) (Int32.ofNat q.2.1) = rz_bit (Int32.ofNat q.2.1) := fun h => by unfold rz_wr; exact if_neg (fun z => absurd (l10.mp z) (by omega))
  have uw0 : ∀ h : ¬ q.1 ≤ 10, rz_wr (Int32.ofNat q.1) (Int32.ofNat q.2.1) = 0 := fun h => by unfold rz_wr; exact if_pos (l10.mpr (by omega))
  have or0 : ∀ x : Int32, x ||| 0 = x := fun x => Int32.or_zero
  have zor : ∀ x : Int32, 0 ||| x = x := fun x => Int32.zero_or
  obtain ⟨i, hi, eB⟩ := rz_ev hB
  obtain ⟨j, hj, eT⟩ := rz_ev hT
  obtain ⟨m, hm, eBT⟩ := rz_ev (hB.or14 hT)
  by_cases c5 : q.1 ≤ 5
  · have er : rz_rd (Int32.ofNat q.1) (Int32.ofNat q.2.1) (Int32.ofNat q.2.2.1) (Int32.ofNat q.2.2.2) = rz_bit (Int32.ofNat q.2.2.1) ||| rz_bit (Int32.ofNat q.2.2.2) := by unfold rz_rd; exact if_neg (fun z => absurd (l5.mp z) (by omega))
    rw [er, ub1 (by omega), ub2 (by omega), or0, uw (by omega), rz_rb, if_pos c5, rz_bh, if_neg (by omega), if_neg (by omega), rz_wb, if_pos (by omega), eB]
    exact rz_e1 _ (by omega) _ (by have := b5 c5; omega) _ (by omega) i hi
  by_cases c10 : q.1 ≤ 10
  · have er : rz_rd (Int32.ofNat q.1) (Int32.ofNat q.2.1) (Int32.ofNat q.2.2.1) (Int32.ofNat q.2.2.2) = rz_bit (Int32.ofNat q.2.2.1) := by
      unfold rz_rd
      exact (if_pos (l5.mpr (by omega))).trans (if_neg (fun z => absurd (l10.mp z) (by omega)))
    rw [er, ub1 (by omega), ub2 (by omega), or0, uw (by omega), rz_rb, if_neg c5, if_pos c10, rz_bh, if_neg (by omega), if_neg (by omega), rz_wb, if_pos (by omega), eB]
    exact rz_e2 _ (by omega) _ (by omega) i hi
  by_cases c13 : q.1 ≤ 13
  · have er : rz_rd (Int32.ofNat q.1) (Int32.ofNat q.2.1) (Int32.ofNat q.2.2.1) (Int32.ofNat q.2.2.2) = rz_bit (Int32.ofNat q.2.1) ||| rz_bit (Int32.ofNat q.2.2.1) := by
      unfold rz_rd
      exact (if_pos (l5.mpr (by omega))).trans ((if_pos (l10.mpr (by omega))).trans (if_neg (fun z => absurd (l13.mp z) (by omega))))
    rw [er, ub1 (by omega), uw0 c10, rz_rb, if_neg c5, if_neg c10, if_pos c13, rz_bh, if_neg (by omega), rz_wb, if_neg c10]
    by_cases c11 : q.1 = 11
    · rw [ub2 (by omega), or0, if_neg (by omega), eB]
      exact rz_e3 _ (by omega) _ (by omega) i hi
    · rw [ub2t (by omega), if_pos (by omega), eBT]
      exact rz_e3 _ (by omega) _ (by omega) m hm
  by_cases c14 : q.1 = 14
  · have er : rz_rd (Int32.ofNat q.1) (Int32.ofNat q.2.1) (Int32.ofNat q.2.2.1) (Int32.ofNat q.2.2.2) = 0 := by
      unfold rz_rd
      exact (if_pos (l5.mpr (by omega))).trans ((if_pos (l10.mpr (by omega))).trans ((if_pos (l13.mpr (by omega))).trans (if_pos (e14.mpr c14))))
    have eb1 : rz_b1 n f (Int32.ofNat q.1) k = 0 := by unfold rz_b1; exact if_pos (Or.inl (e14.mpr c14))
    rw [er, eb1, ub2t (by omega), zor, uw0 c10, rz_rb, if_neg c5, if_neg c10, if_neg c13, if_neg (by omega), rz_bh, if_pos c14, rz_wb, if_neg c10, eT]
    exact rz_e4 j hj
  · have c15 : q.1 = 15 := by omega
    have er : rz_rd (Int32.ofNat q.1) (Int32.ofNat q.2.1) (Int32.ofNat q.2.2.1) (Int32.ofNat q.2.2.2) = 14 := by
      unfold rz_rd
      exact (if_pos (l5.mpr (by omega))).trans ((if_pos (l10.mpr (by omega))).trans ((if_pos (l13.mpr (by omega))).trans (if_neg (fun z => c14 (e14.mp z)))))
    have eb1 : rz_b1 n f (Int32.ofNat q.1) k = 0 := by unfold rz_b1; exact if_pos (Or.inr (e15.mpr c15))
    rw [er, eb1, ub2 (by omega), uw0 c10, rz_rb, if_neg c5, if_neg c10, if_neg c13, if_pos c15, rz_bh, if_neg c14, if_neg (by omega), rz_wb, if_neg c10, eB]
    exact rz_e5 i hi
theorem z_before_14 {k : Nat} (hk : k ≤ 24) : rz_C xs xl 31 [.ref 14, .int (Int32.ofNat k)] (rz_w v a g) (fun q w' => q = .inl (some (.int (a 6 k))) ∧ w' = rz_w v a g) := by
  refine ev_ps 3 rfl (ev_ald rfl rfl (rz_in (by omega) (by decide)) ?_)
  exact ev_ret rfl rfl ⟨by rw [rz_clamp (by omega)], rfl⟩
theorem z_fill_14 : rz_C xs xl 11 [.ref 15, .int 0] (rz_w v a g) (fun q w' => q = .inl none ∧ ∃ f, w' = rz_w v (rz_ua a 6 f) g ∧ ∀ k, k < 25 → f k = 0) := by
  refine ev_ps 5 rfl (ev_w (w2 := rz_w v (rz_ua a 6 (a 6)) g) rfl ?_)
  refine ev_loop (α := Nat × (Nat → Int32)) (fun r => 25 - r.1) (fun r => r.1 ≤ 25 ∧ ∀ k, k < r.1 → r.2 k = 0) (fun r => [some (.ref 15), some (.int 0), some (.int (Int32.ofNat r.1)), some (.int (Int32.ofNat 25))]) (fun _ => []) (fun r => rz_w v (rz_ua a 6 r.2) g) ?_ (0, a 6) ⟨Nat.zero_le _, fun k hk => absurd hk (Nat.not_lt_zero _)⟩
  rintro ⟨k, f⟩ ⟨hk, hf⟩ ih
  dsimp only at hk hf ih ⊢
  refine ev_ps 2 rfl (ev_ic (cd := .ge) rfl (fun h => ?_) (fun h => ?_))
  · have hkn : 25 ≤ k := rn_ge_t (by omega) (by omega) h
    exact ev_ret rfl rfl ⟨rfl, f, rfl, fun j hj => hf j (by omega)⟩
  · have hk' : k < 25 := rn_ge_f (by omega) (by omega) h
    refine ev_ps 3 rfl (ev_ast rfl rfl (rz_in hk' (by decide)) ?_)
    rw [rz_clamp (k := k) (by omega)]
    have h9 := ih (k + 1, upd f k 0) ⟨by show k + 1 ≤ 25; omega, fun j hj => by
      by_cases hjk : j = k
      · simp [upd, hjk]
      · simp only [upd, hjk, if_false]; exact hf j (by have : j < k + 1 := hj; omega)⟩ (by show 25 - (k + 1) < 25 - k; omega)
    dsimp only at h9
    rw [← rz_succ k] at h9
    exact ev_w (w2 := rz_w v (rz_ua a 6 (upd f k 0)) g) rfl (ev_ps 2 rfl h9)
theorem z_behind_14 {k : Nat} (hv : v 0 = Int32.ofNat n) (hn : n ≤ 24) (hk : k < n) (h14 : a 6 n = 14) (hpc : rz_pc a R n) (hl : rz_lgs R n) : rz_C xs xl 14 [.ref 14, .ref 1, .int (Int32.ofNat k)] (rz_w v a g) (fun q w' => q = .inl (some (.int (rz_bh n (a 6) (R k) k))) ∧ w' = rz_w v a g) := by
  have hq := hl k hk
  have hat : ∀ j, j ≤ n → a 6 j = rz_at n (a 6) j := fun j hj => by
    unfold rz_at
    by_cases h : j < n
    · rw [if_pos h]
    · rw [if_neg h, show j = n by omega]; exact h14
  refine ev_ps 2 rfl (ev_call (av := [_, _]) rfl rfl rfl rfl ⟨Nat.le_of_ble_eq_true rfl, rfl⟩ ⟨Nat.le_of_ble_eq_true rfl, Nat.le_of_ble_eq_true rfl⟩ (y_codeAt (by omega)) ?_)
  rintro _ _ ⟨rfl, rfl⟩
  rw [hpc k hk]
  refine ev_ps 4 rfl (ev_call (av := [_]) rfl rfl rfl rfl ⟨Nat.le_of_ble_eq_true rfl, rfl⟩ ⟨Nat.le_of_ble_eq_true rfl, Nat.le_of_ble_eq_true rfl⟩ (x_t hq) ?_)
  rintro _ _ ⟨rfl, rfl⟩
  refine ev_ps 1 rfl (ev_call (av := [_]) rfl rfl rfl rfl ⟨Nat.le_of_ble_eq_true rfl, rfl⟩ ⟨Nat.le_of_ble_eq_true rfl, Nat.le_of_ble_eq_true rfl⟩ (c_length) ?_)
  rintro _ _ ⟨rfl, rfl⟩
  rw [hv]
  refine ev_min rfl (Nat.le_of_ble_eq_true rfl) ?_
  have emin : ∃ j, j ≤ n ∧ (if Int32.ofNat n < Int32.ofNat (R k).2.2.2 then Int32.ofNat n else Int32.ofNat (R k).2.2.2) = Int32.ofNat j ∧ rz_at n (a 6) j = rz_at n (a 6) (R k).2.2.2 := by
    by_cases h : n < (R k).2.2.2
    · refine ⟨n, Nat.le_refl _, by rw [if_pos ((rz_lt_iff (by omega) (by have := hq.2.2.2.1; omega)).mpr h)], ?_⟩
      unfold rz_at
      rw [if_neg (by omega), if_neg (by omega)]
    · exact ⟨(R k).2.2.2, by omega, by rw [if_neg (fun z => h ((rz_lt_iff (by omega) (by have := hq.2.2.2.1; omega)).mp z))], rfl⟩
  obtain ⟨j, hj, ej, eat⟩ := emin
  rw [ej]
  refine ev_ald rfl rfl (rz_in (by omega) (by decide)) ?_
  rw [rz_clamp (k := j) (by omega), hat j hj, eat]
  refine ev_ps 2 rfl (ev_call (av := [_]) rfl rfl rfl rfl ⟨Nat.le_of_ble_eq_true rfl, rfl⟩ ⟨Nat.le_of_ble_eq_true rfl, Nat.le_of_ble_eq_true rfl⟩ (x_op hq) ?_)
  rintro _ _ ⟨rfl, rfl⟩
  have g1 : rz_C xs xl 14 [.ref 14, .ref 1, .int (Int32.ofNat k)] (rz_w v a g) (fun q w' => True) → True := fun _ => trivial
  have hin1 : ¬ (Int32.ofNat k + Int32.ofInt 1 < 0 ∨ 25 ≤ (Int32.ofNat k + Int32.ofInt 1).toNatClampNeg) := by
    rw [show Int32.ofNat k + Int32.ofInt 1 = Int32.ofNat (k + 1) from rz_succ k]; exact rz_in (by omega) (by decide)
  have ecl : (Int32.ofNat k + Int32.ofInt 1).toNatClampNeg = k + 1 := by
    rw [show Int32.ofNat k + Int32.ofInt 1 = Int32.ofNat (k + 1) from rz_succ k]; exact rz_clamp (by omega)
  have b1 := hq.1
  generalize rz_pk (R k) = code
  unfold rz_bh
  generalize hop : (R k).1 = op at b1 ⊢
  generalize rz_at n (a 6) (R k).2.2.2 = tv
  have dflt : ¬ (op = 12 ∨ op = 13 ∨ op = 14) → rz_E xs xl 14 71 [some (.ref 14), some (.ref 1), some (.int (Int32.ofNat k)), some (.int code), some (.int tv)] [] (rz_w v a g) 0 0 (fun q w' => q = .inl (some (.int (if op = 14 then tv else if op = 12 ∨ op = 13 then rz_at n (a 6) (k + 1) ||| tv else rz_at n (a 6) (k + 1)))) ∧ w' = rz_w v a g) := fun hno => by
    refine ev_ps 5 rfl (ev_ald rfl rfl hin1 ?_)
    rw [ecl, hat (k + 1) (by omega)]
    exact ev_ret rfl rfl ⟨by rw [if_neg (by omega), if_neg (by omega)], rfl⟩
  have mid : (op = 12 ∨ op = 13) → rz_E xs xl 14 59 [some (.ref 14), some (.ref 1), some (.int (Int32.ofNat k)), some (.int code), some (.int tv)] [] (rz_w v a g) 0 0 (fun q w' => q = .inl (some (.int (if op = 14 then tv else if op = 12 ∨ op = 13 then rz_at n (a 6) (k + 1) ||| tv else rz_at n (a 6) (k + 1)))) ∧ w' = rz_w v a g) := fun hyes => by
    refine ev_ps 5 rfl (ev_ald rfl rfl hin1 ?_)
    rw [ecl, hat (k + 1) (by omega)]
    exact ev_ps 2 rfl (ev_ret rfl rfl ⟨by rw [if_neg (by omega), if_pos hyes], rfl⟩)
  rcases (show op = 0 ∨ op = 1 ∨ op = 2 ∨ op = 3 ∨ op = 4 ∨ op = 5 ∨ op = 6 ∨ op = 7 ∨ op = 8 ∨ op = 9 ∨ op = 10 ∨ op = 11 ∨ op = 12 ∨ op = 13 ∨ op = 14 ∨ op = 15 by omega) with rfl | rfl | rfl | rfl | rfl | rfl | rfl | rfl | rfl | rfl | rfl | rfl | rfl | rfl | rfl | rfl
  · exact ev_ps 1 rfl (dflt (by omega))
  · exact ev_ps 1 rfl (dflt (by omega))
  · exact ev_ps 1 rfl (dflt (by omega))
  · exact ev_ps 1 rfl (dflt (by omega))
  · exact ev_ps 1 rfl (dflt (by omega))
  · exact ev_ps 1 rfl (dflt (by omega))
  · exact ev_ps 1 rfl (dflt (by omega))
  · exact ev_ps 1 rfl (dflt (by omega))
  · exact ev_ps 1 rfl (dflt (by omega))
  · exact ev_ps 1 rfl (dflt (by omega))
  · exact ev_ps 1 rfl (dflt (by omega))
  · exact ev_ps 1 rfl (dflt (by omega))
  · exact ev_ps 1 rfl (mid (by omega))
  · exact ev_ps 1 rfl (mid (by omega))
  · exact ev_ps 2 rfl (ev_ret rfl rfl ⟨rfl, rfl⟩)
  · exact ev_ps 1 rfl (dflt (by omega))
theorem z_findMore_14 {φ0 : Nat → Int32} (hv : v 0 = Int32.ofNat n) (hn : n ≤ 24) (h14 : a 6 n = 14) (hpc : rz_pc a R n) (hl : rz_lgs R n) (hf0 : ∀ k, k < n → a 6 k = φ0 k) (hK0 : rz_K (rz_fam R) n φ0) : rz_C xs xl 12 [.ref 14, .ref 1] (rz_w v a g) (fun q w' => ∃ (u : Int32) (f : Nat → Int32), (u = 0 ∨ u = 1) ∧ q = .inl (some (.int u)) ∧ w' = rz_w v (rz_ua a 6 f) g ∧ f n = 14 ∧ (∀ k, k < n → f k = rz_sw (rz_fam R) n n φ0 k) ∧ (u = 0 → rz_sw (rz_fam R) n n φ0 = φ0) ∧ (u = 1 → rz_mz (rz_sw (rz_fam R) n n φ0) n < rz_mz φ0 n)) := by
  have hfl : ∀ p, p < n → rz_li (rz_fam R) p := fun p hp => rz_fam_li (hl p hp)
  refine ev_ps 3 rfl (ev_call (av := [_]) rfl rfl rfl rfl ⟨Nat.le_of_ble_eq_true rfl, rfl⟩ ⟨Nat.le_of_ble_eq_true rfl, Nat.le_of_ble_eq_true rfl⟩ (c_length) ?_)
  rintro _ _ ⟨rfl, rfl⟩
  refine ev_ps 3 rfl (ev_w (w2 := rz_w v (rz_ua a 6 (a 6)) g) rfl ?_)
  refine ev_l (L2 := [some (.ref 14), some (.ref 1), some (.int 0), some (.int (Int32.ofNat n - 1)), none, none, none]) (by rw [← hv]; rfl) ?_
  refine ev_loop (α := Nat × Int32 × Option Value × Option Value × Option Value × (Nat → Int32) × (Nat → Int32)) (fun r => r.1) (fun r => r.1 ≤ n ∧ (r.2.1 = 0 ∨ r.2.1 = 1) ∧ r.2.2.2.2.2.1 n = 14 ∧ (∀ k, k < n → r.2.2.2.2.2.1 k = r.2.2.2.2.2.2 k) ∧ rz_K (rz_fam R) n r.2.2.2.2.2.2 ∧ rz_sw (rz_fam R) n r.1 r.2.2.2.2.2.2 = rz_sw (rz_fam R) n n φ0 ∧ (r.2.1 = 0 → r.2.2.2.2.2.2 = φ0) ∧ rz_mz r.2.2.2.2.2.2 n ≤ rz_mz φ0 n ∧ (r.2.1 = 1 → rz_mz r.2.2.2.2.2.2 n < rz_mz φ0 n)) (fun r => [some (.ref 14), some (.ref 1), some (.int r.2.1), some (.int (Int32.ofNat r.1 - 1)), r.2.2.1, r.2.2.2.1, r.2.2.2.2.1]) (fun _ => []) (fun r => rz_w v (rz_ua a 6 r.2.2.2.2.2.1) g) ?_ (n, 0, none, none, none, a 6, φ0) ⟨Nat.le_refl _, Or.inl rfl, h14, hf0, hK0, rfl, fun _ => rfl, Nat.le_refl _, fun q => absurd (show (0 : Int32) = 1 from q) (by decide)⟩
  rintro ⟨k, c, l4, l5, l6, f, φ⟩ ⟨hk, hc, h14f, hfφ, hKφ, hsw, hc0, hm1, hm2⟩ ih
  dsimp only at hk hc h14f hfφ hKφ hsw hc0 hm1 hm2 ih ⊢
  refine ev_ps 1 rfl (ev_if (cd := .lt) rfl (fun h => ?_) (fun h => ?_))
  · have hk0 : k = 0 := by
      rcases Nat.eq_zero_or_pos k with h0 | h0
      · exact h0
      · exfalso
        have h1 := rc_lt_t h
        rw [show Int32.ofNat k - 1 = Int32.ofNat (k - 1) from rz_sub (n := 1) h0] at h1
        exact absurd ((rz_lt_iff (k := 0) (by omega) (by omega)).mp h1) (by omega)
    subst hk0
    have hsw' : φ = rz_sw (rz_fam R) n n φ0 := hsw
    refine ev_ps 1 rfl (ev_ret rfl (show (if c = 0 ∨ c = 1 then some (some (Value.int c)) else none) = _ from if_pos hc) ⟨c, f, hc, rfl, rfl, h14f, fun i hi => (hfφ i hi).trans (congrFun hsw' i), fun q => hsw'.symm.trans (hc0 q), fun q => by rw [← hsw']; exact hm2 q⟩)
  · have hk0 : 0 < k := by
      rcases Nat.eq_zero_or_pos k with rfl | h0
      · exact absurd (by decide : Int32.ofNat 0 - 1 < 0) (rc_lt_f h)
      · exact h0
    rw [show Int32.ofNat k - 1 = Int32.ofNat (k - 1) from rz_sub (n := 1) hk0]
    have hq := hl (k - 1) (by omega)
    have hin : ¬ (Int32.ofNat (k - 1) < 0 ∨ 25 ≤ (Int32.ofNat (k - 1)).toNatClampNeg) := rz_in (by omega) (by decide)
    have e := rz_clamp (k := k - 1) (by omega)
    have hsb : ∀ p, p < n → rz_sb (f p) 14 := fun p hp => by rw [hfφ p hp]; exact hKφ.1 p hp
    have hlive := rz_live_eq (R := R) (n := n) (f := f) (k := k - 1) hq hsb
    have hF : rz_Fp (rz_fam R) n f (k - 1) = rz_Fp (rz_fam R) n φ (k - 1) := rz_Fp_cg hfφ
    refine ev_ps 2 rfl (ev_call (av := [_, _]) rfl rfl rfl rfl ⟨Nat.le_of_ble_eq_true rfl, rfl⟩ ⟨Nat.le_of_ble_eq_true rfl, Nat.le_of_ble_eq_true rfl⟩ (y_codeAt (by omega)) ?_)
    rintro _ _ ⟨rfl, rfl⟩
    rw [show rz_ua a 6 f 0 (k - 1) = rz_pk (R (k - 1)) from hpc (k - 1) (by omega)]
    refine ev_ps 4 rfl (ev_call (av := [_, _, _]) rfl rfl rfl rfl ⟨Nat.le_of_ble_eq_true rfl, rfl⟩ ⟨Nat.le_of_ble_eq_true rfl, Nat.le_of_ble_eq_true rfl⟩ (z_behind_14 (a := rz_ua a 6 f) (R := R) hv hn (by omega) h14f hpc hl) ?_)
    rintro _ _ ⟨rfl, rfl⟩
    refine ev_ps 1 rfl (ev_call (av := [_]) rfl rfl rfl rfl ⟨Nat.le_of_ble_eq_true rfl, rfl⟩ ⟨Nat.le_of_ble_eq_true rfl, Nat.le_of_ble_eq_true rfl⟩ (x_writtenBy hq) ?_)
    rintro _ _ ⟨rfl, rfl⟩
    refine ev_ps 5 rfl (ev_call (av := [_]) rfl rfl rfl rfl ⟨Nat.le_of_ble_eq_true rfl, rfl⟩ ⟨Nat.le_of_ble_eq_true rfl, Nat.le_of_ble_eq_true rfl⟩ (x_readBy hq) ?_)
    rintro _ _ ⟨rfl, rfl⟩
    refine ev_ps 5 rfl ?_
    refine ev_l (L2 := [some (.ref 14), some (.ref 1), some (.int c), some (.int (Int32.ofNat (k - 1))), some (.int (rz_pk (R (k - 1)))), some (.int (rz_bh n f (R (k - 1)) (k - 1) &&& (rz_wb (R (k - 1)) ^^^ Int32.ofInt (-1)))), some (.int (rz_Fp (rz_fam R) n φ (k - 1)))]) (by rw [← hF, ← hlive]; rfl) ?_
    obtain ⟨j1, j2, j3⟩ := rz_K_step hKφ (show k - 1 < n by omega) (hfl (k - 1) (by omega))
    have next : ∀ (d : Int32) (f2 φ2 : Nat → Int32), (d = 0 ∨ d = 1) → f2 n = 14 → (∀ i, i < n → f2 i = φ2 i) → φ2 = upd φ (k - 1) (rz_Fp (rz_fam R) n φ (k - 1)) → (d = 0 → φ2 = φ0) → (d = 1 → rz_mz φ2 n < rz_mz φ0 n) → ∀ l4 l5 l6, rz_E xs xl 12 70 [some (.ref 14), some (.ref 1), some (.int d), some (.int (Int32.ofNat (k - 1))), l4, l5, l6] [] (rz_w v (rz_ua a 6 f2) g) 0 0 (fun q w' => ∃ (u : Int32) (f : Nat → Int32), (u = 0 ∨ u = 1) ∧ q = .inl (some (.int u)) ∧ w' = rz_w v (rz_ua a 6 f) g ∧ f n = 14 ∧ (∀ k, k < n → f k = rz_sw (rz_fam R) n n φ0 k) ∧ (u = 0 → rz_sw (rz_fam R) n n φ0 = φ0) ∧ (u = 1 → rz_mz (rz_sw (rz_fam R) n n φ0) n < rz_mz φ0 n)) := by
      intro d f2 φ2 hd h1 h2 h3 h4 h5 l4 l5 l6
      subst h3
      have h9 := ih (k - 1, d, l4, l5, l6, f2, upd φ (k - 1) (rz_Fp (rz_fam R) n φ (k - 1))) ⟨by show k - 1 ≤ n; omega, hd, h1, h2, j1, by
        rw [show k = (k - 1) + 1 by omega] at hsw
        exact hsw, h4, Nat.le_trans j2 hm1, h5⟩ (by show k - 1 < k; omega)
      dsimp only at h9
      rw [show Int32.ofNat (k - 1) - 1 = Int32.ofNat (k - 1) + Int32.ofInt (-1) from Int32.sub_eq_add_neg _ _] at h9
      exact ev_ps 2 rfl h9
    refine ev_ps 4 rfl (ev_ald rfl rfl hin ?_)
    rw [e, show rz_ua a 6 f 6 (k - 1) = φ (k - 1) from hfφ (k - 1) (by omega)]
    refine ev_ic (cd := .eq) rfl (fun h1 => ?_) (fun h1 => ?_)
    · have heq := rc_eq_t h1
      have es := rz_upd_self heq
      exact next c f φ hc h14f hfφ es.symm hc0 hm2 _ _ _
    · refine ev_ps 4 rfl (ev_ast rfl rfl hin ?_)
      rw [e]
      refine ev_w (w2 := rz_w v (rz_ua a 6 (upd f (k - 1) (rz_Fp (rz_fam R) n φ (k - 1)))) g) rfl ?_
      refine ev_ps 2 rfl (next 1 _ _ (Or.inr rfl) ?_ (fun i hi => ?_) rfl (fun q => absurd q (by decide)) (fun _ => Nat.lt_of_lt_of_le (j3 (rc_eq_f h1)) hm1) _ _ _)
      · simp only [upd]
        rw [if_neg (by omega)]; exact h14f
      · by_cases hik : i = k - 1
        · simp [upd, hik]
        · simp only [upd, hik, if_false]; exact hfφ i hi
theorem z_findFor_14 (hv : v 0 = Int32.ofNat n) (hn : n ≤ 24) (hpc : rz_pc a R n) (hl : rz_lgs R n) : rz_C xs xl 10 [.ref 14, .ref 1] (rz_w v a g) (fun q w' => q = .inl none ∧ ∃ f, w' = rz_w v (rz_ua a 6 f) g ∧ ∀ k, k ≤ n → f k = rz_S R n k) := by
  have hfl : ∀ p, p < n → rz_li (rz_fam R) p := fun p hp => rz_fam_li (hl p hp)
  refine ev_ps 3 rfl (ev_call (av := [_, _]) rfl rfl rfl rfl ⟨Nat.le_of_ble_eq_true rfl, rfl⟩ ⟨Nat.le_of_ble_eq_true rfl, Nat.le_of_ble_eq_true rfl⟩ (z_fill_14) ?_)
  rintro _ _ ⟨rfl, f0, rfl, hf0⟩
  refine ev_ps 3 rfl (ev_call (av := [_]) rfl rfl rfl rfl ⟨Nat.le_of_ble_eq_true rfl, rfl⟩ ⟨Nat.le_of_ble_eq_true rfl, Nat.le_of_ble_eq_true rfl⟩ (c_length) ?_)
  rintro _ _ ⟨rfl, rfl⟩
  rw [hv]
  refine ev_ps 1 rfl (ev_ast rfl rfl (rz_in (by omega) (by decide)) ?_)
  rw [rz_clamp (k := n) (by omega)]
  refine ev_w (w2 := rz_w v (rz_ua a 6 (upd f0 n 14)) g) rfl ?_
  refine ev_ps 4 rfl ?_
  refine ev_loop (α := Nat × Int32 × (Nat → Int32)) (fun r => 73 - r.1) (fun r => r.1 ≤ 73 ∧ (r.2.1 = 0 ∨ r.2.1 = 1) ∧ r.2.2 n = 14 ∧ (∀ k, k < n → r.2.2 k = rz_it (rz_fam R) n r.1 k) ∧ (r.2.1 = 0 → rz_sw (rz_fam R) n n (rz_it (rz_fam R) n r.1) = rz_it (rz_fam R) n r.1) ∧ (r.2.1 = 1 → rz_mz (rz_it (rz_fam R) n r.1) n + r.1 ≤ 3 * n)) (fun r => [some (.ref 14), some (.ref 1), some (.int r.2.1), some (.int (Int32.ofNat r.1))]) (fun _ => []) (fun r => rz_w v (rz_ua a 6 r.2.2) g) ?_ (0, 1, upd f0 n 14) ⟨Nat.zero_le _, Or.inr rfl, by simp [upd], fun k hk => by
    have : upd f0 n 14 k = f0 k := by simp only [upd]; rw [if_neg (by omega)]
    exact this.trans (hf0 k (by omega)), fun q => absurd (show (1 : Int32) = 0 from q) (by decide), fun _ => by show rz_mz (fun _ => 0) n + 0 ≤ 3 * n; rw [rz_mz_0]; omega⟩
  rintro ⟨j, c, f⟩ ⟨hj, hc, h14, hf, hst, hms⟩ ih
  dsimp only at hj hc h14 hf hst hms ih ⊢
  have done : rz_sw (rz_fam R) n n (rz_it (rz_fam R) n j) = rz_it (rz_fam R) n j → ∀ k, k ≤ n → f k = rz_S R n k := fun hs k hk => by
    unfold rz_S rz_at
    by_cases h : k < n
    · rw [if_pos h, hf k h, rz_it_eq hfl hn hs]; rfl
    · rw [if_neg h, show k = n by omega]; exact h14
  refine ev_ps 1 rfl (ev_if (cd := .eq) rfl (fun h => ?_) (fun h => ?_))
  · exact ev_ret rfl rfl ⟨rfl, f, rfl, done (hst (rc_eq_t h))⟩
  · have hc1 : c = 1 := hc.resolve_left (rc_eq_f h)
    have hlt := hms hc1
    refine ev_ps 2 rfl (ev_ic (cd := .ge) rfl (fun h1 => ?_) (fun h1 => ?_))
    · have := rn_ge_t (k := 73) (by omega) (by omega) h1
      omega
    · have hj' : j < 73 := rn_ge_f (k := 73) (by omega) (by omega) h1
      refine ev_ps 2 rfl (ev_call (av := [_, _]) rfl rfl rfl rfl ⟨Nat.le_of_ble_eq_true rfl, rfl⟩ ⟨Nat.le_of_ble_eq_true rfl, Nat.le_of_ble_eq_true rfl⟩ (z_findMore_14 (a := rz_ua a 6 f) (R := R) (φ0 := rz_it (rz_fam R) n j) hv hn h14 hpc hl hf (rz_it_K hfl j)) ?_)
      rintro _ _ ⟨u, f2, hu, rfl, rfl, h142, hf2, hu0, hu1⟩
      have h9 := ih (j + 1, u, f2) ⟨by show j + 1 ≤ 73; omega, hu, h142, hf2, fun q => by
        have e2 := hu0 q
        show rz_sw (rz_fam R) n n (rz_sw (rz_fam R) n n (rz_it (rz_fam R) n j)) = rz_sw (rz_fam R) n n (rz_it (rz_fam R) n j)
        rw [e2, e2], fun q => by
        have := hu1 q
        show rz_mz (rz_sw (rz_fam R) n n (rz_it (rz_fam R) n j)) n + (j + 1) ≤ 3 * n
        omega⟩ (by show 73 - (j + 1) < 73 - j; omega)
      dsimp only at h9
      rw [← rz_succ j] at h9
      exact ev_w (w2 := rz_w v (rz_ua a 6 f2) g) rfl (ev_ps 3 rfl h9)
theorem z_before_6 {k : Nat} (hk : k ≤ 24) : rz_C xs xl 31 [.ref 6, .int (Int32.ofNat k)] (rz_w v a g) (fun q w' => q = .inl (some (.int (a 3 k))) ∧ w' = rz_w v a g) := by
  refine ev_ps 3 rfl (ev_ald rfl rfl (rz_in (by omega) (by decide)) ?_)
  exact ev_ret rfl rfl ⟨by rw [rz_clamp (by omega)], rfl⟩
theorem z_fill_6 : rz_C xs xl 11 [.ref 7, .int 0] (rz_w v a g) (fun q w' => q = .inl none ∧ ∃ f, w' = rz_w v (rz_ua a 3 f) g ∧ ∀ k, k < 25 → f k = 0) := by
  refine ev_ps 5 rfl (ev_w (w2 := rz_w v (rz_ua a 3 (a 3)) g) rfl ?_)
  refine ev_loop (α := Nat × (Nat → Int32)) (fun r => 25 - r.1) (fun r => r.1 ≤ 25 ∧ ∀ k, k < r.1 → r.2 k = 0) (fun r => [some (.ref 7), some (.int 0), some (.int (Int32.ofNat r.1)), some (.int (Int32.ofNat 25))]) (fun _ => []) (fun r => rz_w v (rz_ua a 3 r.2) g) ?_ (0, a 3) ⟨Nat.zero_le _, fun k hk => absurd hk (Nat.not_lt_zero _)⟩
  rintro ⟨k, f⟩ ⟨hk, hf⟩ ih
  dsimp only at hk hf ih ⊢
  refine ev_ps 2 rfl (ev_ic (cd := .ge) rfl (fun h => ?_) (fun h => ?_))
  · have hkn : 25 ≤ k := rn_ge_t (by omega) (by omega) h
    exact ev_ret rfl rfl ⟨rfl, f, rfl, fun j hj => hf j (by omega)⟩
  · have hk' : k < 25 := rn_ge_f (by omega) (by omega) h
    refine ev_ps 3 rfl (ev_ast rfl rfl (rz_in hk' (by decide)) ?_)
    rw [rz_clamp (k := k) (by omega)]
    have h9 := ih (k + 1, upd f k 0) ⟨by show k + 1 ≤ 25; omega, fun j hj => by
      by_cases hjk : j = k
      · simp [upd, hjk]
      · simp only [upd, hjk, if_false]; exact hf j (by have : j < k + 1 := hj; omega)⟩ (by show 25 - (k + 1) < 25 - k; omega)
    dsimp only at h9
    rw [← rz_succ k] at h9
    exact ev_w (w2 := rz_w v (rz_ua a 3 (upd f k 0)) g) rfl (ev_ps 2 rfl h9)
theorem z_behind_6 {k : Nat} (hv : v 0 = Int32.ofNat n) (hn : n ≤ 24) (hk : k < n) (h14 : a 3 n = 14) (hpc : rz_pc a R n) (hl : rz_lgs R n) : rz_C xs xl 14 [.ref 6, .ref 1, .int (Int32.ofNat k)] (rz_w v a g) (fun q w' => q = .inl (some (.int (rz_bh n (a 3) (R k) k))) ∧ w' = rz_w v a g) := by
  have hq := hl k hk
  have hat : ∀ j, j ≤ n → a 3 j = rz_at n (a 3) j := fun j hj => by
    unfold rz_at
    by_cases h : j < n
    · rw [if_pos h]
    · rw [if_neg h, show j = n by omega]; exact h14
  refine ev_ps 2 rfl (ev_call (av := [_, _]) rfl rfl rfl rfl ⟨Nat.le_of_ble_eq_true rfl, rfl⟩ ⟨Nat.le_of_ble_eq_true rfl, Nat.le_of_ble_eq_true rfl⟩ (y_codeAt (by omega)) ?_)
  rintro _ _ ⟨rfl, rfl⟩
  rw [hpc k hk]
  refine ev_ps 4 rfl (ev_call (av := [_]) rfl rfl rfl rfl ⟨Nat.le_of_ble_eq_true rfl, rfl⟩ ⟨Nat.le_of_ble_eq_true rfl, Nat.le_of_ble_eq_true rfl⟩ (x_t hq) ?_)
  rintro _ _ ⟨rfl, rfl⟩
  refine ev_ps 1 rfl (ev_call (av := [_]) rfl rfl rfl rfl ⟨Nat.le_of_ble_eq_true rfl, rfl⟩ ⟨Nat.le_of_ble_eq_true rfl, Nat.le_of_ble_eq_true rfl⟩ (c_length) ?_)
  rintro _ _ ⟨rfl, rfl⟩
  rw [hv]
  refine ev_min rfl (Nat.le_of_ble_eq_true rfl) ?_
  have emin : ∃ j, j ≤ n ∧ (if Int32.ofNat n < Int32.ofNat (R k).2.2.2 then Int32.ofNat n else Int32.ofNat (R k).2.2.2) = Int32.ofNat j ∧ rz_at n (a 3) j = rz_at n (a 3) (R k).2.2.2 := by
    by_cases h : n < (R k).2.2.2
    · refine ⟨n, Nat.le_refl _, by rw [if_pos ((rz_lt_iff (by omega) (by have := hq.2.2.2.1; omega)).mpr h)], ?_⟩
      unfold rz_at
      rw [if_neg (by omega), if_neg (by omega)]
    · exact ⟨(R k).2.2.2, by omega, by rw [if_neg (fun z => h ((rz_lt_iff (by omega) (by have := hq.2.2.2.1; omega)).mp z))], rfl⟩
  obtain ⟨j, hj, ej, eat⟩ := emin
  rw [ej]
  refine ev_ald rfl rfl (rz_in (by omega) (by decide)) ?_
  rw [rz_clamp (k := j) (by omega), hat j hj, eat]
  refine ev_ps 2 rfl (ev_call (av := [_]) rfl rfl rfl rfl ⟨Nat.le_of_ble_eq_true rfl, rfl⟩ ⟨Nat.le_of_ble_eq_true rfl, Nat.le_of_ble_eq_true rfl⟩ (x_op hq) ?_)
  rintro _ _ ⟨rfl, rfl⟩
  have g1 : rz_C xs xl 14 [.ref 6, .ref 1, .int (Int32.ofNat k)] (rz_w v a g) (fun q w' => True) → True := fun _ => trivial
  have hin1 : ¬ (Int32.ofNat k + Int32.ofInt 1 < 0 ∨ 25 ≤ (Int32.ofNat k + Int32.ofInt 1).toNatClampNeg) := by
    rw [show Int32.ofNat k + Int32.ofInt 1 = Int32.ofNat (k + 1) from rz_succ k]; exact rz_in (by omega) (by decide)
  have ecl : (Int32.ofNat k + Int32.ofInt 1).toNatClampNeg = k + 1 := by
    rw [show Int32.ofNat k + Int32.ofInt 1 = Int32.ofNat (k + 1) from rz_succ k]; exact rz_clamp (by omega)
  have b1 := hq.1
  generalize rz_pk (R k) = code
  unfold rz_bh
  generalize hop : (R k).1 = op at b1 ⊢
  generalize rz_at n (a 3) (R k).2.2.2 = tv
  have dflt : ¬ (op = 12 ∨ op = 13 ∨ op = 14) → rz_E xs xl 14 71 [some (.ref 6), some (.ref 1), some (.int (Int32.ofNat k)), some (.int code), some (.int tv)] [] (rz_w v a g) 0 0 (fun q w' => q = .inl (some (.int (if op = 14 then tv else if op = 12 ∨ op = 13 then rz_at n (a 3) (k + 1) ||| tv else rz_at n (a 3) (k + 1)))) ∧ w' = rz_w v a g) := fun hno => by
    refine ev_ps 5 rfl (ev_ald rfl rfl hin1 ?_)
    rw [ecl, hat (k + 1) (by omega)]
    exact ev_ret rfl rfl ⟨by rw [if_neg (by omega), if_neg (by omega)], rfl⟩
  have mid : (op = 12 ∨ op = 13) → rz_E xs xl 14 59 [some (.ref 6), some (.ref 1), some (.int (Int32.ofNat k)), some (.int code), some (.int tv)] [] (rz_w v a g) 0 0 (fun q w' => q = .inl (some (.int (if op = 14 then tv else if op = 12 ∨ op = 13 then rz_at n (a 3) (k + 1) ||| tv else rz_at n (a 3) (k + 1)))) ∧ w' = rz_w v a g) := fun hyes => by
    refine ev_ps 5 rfl (ev_ald rfl rfl hin1 ?_)
    rw [ecl, hat (k + 1) (by omega)]
    exact ev_ps 2 rfl (ev_ret rfl rfl ⟨by rw [if_neg (by omega), if_pos hyes], rfl⟩)
  rcases (show op = 0 ∨ op = 1 ∨ op = 2 ∨ op = 3 ∨ op = 4 ∨ op = 5 ∨ op = 6 ∨ op = 7 ∨ op = 8 ∨ op = 9 ∨ op = 10 ∨ op = 11 ∨ op = 12 ∨ op = 13 ∨ op = 14 ∨ op = 15 by omega) with rfl | rfl | rfl | rfl | rfl | rfl | rfl | rfl | rfl | rfl | rfl | rfl | rfl | rfl | rfl | rfl
  · exact ev_ps 1 rfl (dflt (by omega))
  · exact ev_ps 1 rfl (dflt (by omega))
  · exact ev_ps 1 rfl (dflt (by omega))
  · exact ev_ps 1 rfl (dflt (by omega))
  · exact ev_ps 1 rfl (dflt (by omega))
  · exact ev_ps 1 rfl (dflt (by omega))
  · exact ev_ps 1 rfl (dflt (by omega))
  · exact ev_ps 1 rfl (dflt (by omega))
  · exact ev_ps 1 rfl (dflt (by omega))
  · exact ev_ps 1 rfl (dflt (by omega))
  · exact ev_ps 1 rfl (dflt (by omega))
  · exact ev_ps 1 rfl (dflt (by omega))
  · exact ev_ps 1 rfl (mid (by omega))
  · exact ev_ps 1 rfl (mid (by omega))
  · exact ev_ps 2 rfl (ev_ret rfl rfl ⟨rfl, rfl⟩)
  · exact ev_ps 1 rfl (dflt (by omega))
theorem z_findMore_6 {φ0 : Nat → Int32} (hv : v 0 = Int32.ofNat n) (hn : n ≤ 24) (h14 : a 3 n = 14) (hpc : rz_pc a R n) (hl : rz_lgs R n) (hf0 : ∀ k, k < n → a 3 k = φ0 k) (hK0 : rz_K (rz_fam R) n φ0) : rz_C xs xl 12 [.ref 6, .ref 1] (rz_w v a g) (fun q w' => ∃ (u : Int32) (f : Nat → Int32), (u = 0 ∨ u = 1) ∧ q = .inl (some (.int u)) ∧ w' = rz_w v (rz_ua a 3 f) g ∧ f n = 14 ∧ (∀ k, k < n → f k = rz_sw (rz_fam R) n n φ0 k) ∧ (u = 0 → rz_sw (rz_fam R) n n φ0 = φ0) ∧ (u = 1 → rz_mz (rz_sw (rz_fam R) n n φ0) n < rz_mz φ0 n)) := by
  have hfl : ∀ p, p < n → rz_li (rz_fam R) p := fun p hp => rz_fam_li (hl p hp)
  refine ev_ps 3 rfl (ev_call (av := [_]) rfl rfl rfl rfl ⟨Nat.le_of_ble_eq_true rfl, rfl⟩ ⟨Nat.le_of_ble_eq_true rfl, Nat.le_of_ble_eq_true rfl⟩ (c_length) ?_)
  rintro _ _ ⟨rfl, rfl⟩
  refine ev_ps 3 rfl (ev_w (w2 := rz_w v (rz_ua a 3 (a 3)) g) rfl ?_)
  refine ev_l (L2 := [some (.ref 6), some (.ref 1), some (.int 0), some (.int (Int32.ofNat n - 1)), none, none, none]) (by rw [← hv]; rfl) ?_
  refine ev_loop (α := Nat × Int32 × Option Value × Option Value × Option Value × (Nat → Int32) × (Nat → Int32)) (fun r => r.1) (fun r => r.1 ≤ n ∧ (r.2.1 = 0 ∨ r.2.1 = 1) ∧ r.2.2.2.2.2.1 n = 14 ∧ (∀ k, k < n → r.2.2.2.2.2.1 k = r.2.2.2.2.2.2 k) ∧ rz_K (rz_fam R) n r.2.2.2.2.2.2 ∧ rz_sw (rz_fam R) n r.1 r.2.2.2.2.2.2 = rz_sw (rz_fam R) n n φ0 ∧ (r.2.1 = 0 → r.2.2.2.2.2.2 = φ0) ∧ rz_mz r.2.2.2.2.2.2 n ≤ rz_mz φ0 n ∧ (r.2.1 = 1 → rz_mz r.2.2.2.2.2.2 n < rz_mz φ0 n)) (fun r => [some (.ref 6), some (.ref 1), some (.int r.2.1), some (.int (Int32.ofNat r.1 - 1)), r.2.2.1, r.2.2.2.1, r.2.2.2.2.1]) (fun _ => []) (fun r => rz_w v (rz_ua a 3 r.2.2.2.2.2.1) g) ?_ (n, 0, none, none, none, a 3, φ0) ⟨Nat.le_refl _, Or.inl rfl, h14, hf0, hK0, rfl, fun _ => rfl, Nat.le_refl _, fun q => absurd (show (0 : Int32) = 1 from q) (by decide)⟩
  rintro ⟨k, c, l4, l5, l6, f, φ⟩ ⟨hk, hc, h14f, hfφ, hKφ, hsw, hc0, hm1, hm2⟩ ih
  dsimp only at hk hc h14f hfφ hKφ hsw hc0 hm1 hm2 ih ⊢
  refine ev_ps 1 rfl (ev_if (cd := .lt) rfl (fun h => ?_) (fun h => ?_))
  · have hk0 : k = 0 := by
      rcases Nat.eq_zero_or_pos k with h0 | h0
      · exact h0
      · exfalso
        have h1 := rc_lt_t h
        rw [show Int32.ofNat k - 1 = Int32.ofNat (k - 1) from rz_sub (n := 1) h0] at h1
        exact absurd ((rz_lt_iff (k := 0) (by omega) (by omega)).mp h1) (by omega)
    subst hk0
    have hsw' : φ = rz_sw (rz_fam R) n n φ0 := hsw
    refine ev_ps 1 rfl (ev_ret rfl (show (if c = 0 ∨ c = 1 then some (some (Value.int c)) else none) = _ from if_pos hc) ⟨c, f, hc, rfl, rfl, h14f, fun i hi => (hfφ i hi).trans (congrFun hsw' i), fun q => hsw'.symm.trans (hc0 q), fun q => by rw [← hsw']; exact hm2 q⟩)
  · have hk0 : 0 < k := by
      rcases Nat.eq_zero_or_pos k with rfl | h0
      · exact absurd (by decide : Int32.ofNat 0 - 1 < 0) (rc_lt_f h)
      · exact h0
    rw [show Int32.ofNat k - 1 = Int32.ofNat (k - 1) from rz_sub (n := 1) hk0]
    have hq := hl (k - 1) (by omega)
    have hin : ¬ (Int32.ofNat (k - 1) < 0 ∨ 25 ≤ (Int32.ofNat (k - 1)).toNatClampNeg) := rz_in (by omega) (by decide)
    have e := rz_clamp (k := k - 1) (by omega)
    have hsb : ∀ p, p < n → rz_sb (f p) 14 := fun p hp => by rw [hfφ p hp]; exact hKφ.1 p hp
    have hlive := rz_live_eq (R := R) (n := n) (f := f) (k := k - 1) hq hsb
    have hF : rz_Fp (rz_fam R) n f (k - 1) = rz_Fp (rz_fam R) n φ (k - 1) := rz_Fp_cg hfφ
    refine ev_ps 2 rfl (ev_call (av := [_, _]) rfl rfl rfl rfl ⟨Nat.le_of_ble_eq_true rfl, rfl⟩ ⟨Nat.le_of_ble_eq_true rfl, Nat.le_of_ble_eq_true rfl⟩ (y_codeAt (by omega)) ?_)
    rintro _ _ ⟨rfl, rfl⟩
    rw [show rz_ua a 3 f 0 (k - 1) = rz_pk (R (k - 1)) from hpc (k - 1) (by omega)]
    refine ev_ps 4 rfl (ev_call (av := [_, _, _]) rfl rfl rfl rfl ⟨Nat.le_of_ble_eq_true rfl, rfl⟩ ⟨Nat.le_of_ble_eq_true rfl, Nat.le_of_ble_eq_true rfl⟩ (z_behind_6 (a := rz_ua a 3 f) (R := R) hv hn (by omega) h14f hpc hl) ?_)
    rintro _ _ ⟨rfl, rfl⟩
    refine ev_ps 1 rfl (ev_call (av := [_]) rfl rfl rfl rfl ⟨Nat.le_of_ble_eq_true rfl, rfl⟩ ⟨Nat.le_of_ble_eq_true rfl, Nat.le_of_ble_eq_true rfl⟩ (x_writtenBy hq) ?_)
    rintro _ _ ⟨rfl, rfl⟩
    refine ev_ps 5 rfl (ev_call (av := [_]) rfl rfl rfl rfl ⟨Nat.le_of_ble_eq_true rfl, rfl⟩ ⟨Nat.le_of_ble_eq_true rfl, Nat.le_of_ble_eq_true rfl⟩ (x_readBy hq) ?_)
    rintro _ _ ⟨rfl, rfl⟩
    refine ev_ps 5 rfl ?_
    refine ev_l (L2 := [some (.ref 6), some (.ref 1), some (.int c), some (.int (Int32.ofNat (k - 1))), some (.int (rz_pk (R (k - 1)))), some (.int (rz_bh n f (R (k - 1)) (k - 1) &&& (rz_wb (R (k - 1)) ^^^ Int32.ofInt (-1)))), some (.int (rz_Fp (rz_fam R) n φ (k - 1)))]) (by rw [← hF, ← hlive]; rfl) ?_
    obtain ⟨j1, j2, j3⟩ := rz_K_step hKφ (show k - 1 < n by omega) (hfl (k - 1) (by omega))
    have next : ∀ (d : Int32) (f2 φ2 : Nat → Int32), (d = 0 ∨ d = 1) → f2 n = 14 → (∀ i, i < n → f2 i = φ2 i) → φ2 = upd φ (k - 1) (rz_Fp (rz_fam R) n φ (k - 1)) → (d = 0 → φ2 = φ0) → (d = 1 → rz_mz φ2 n < rz_mz φ0 n) → ∀ l4 l5 l6, rz_E xs xl 12 70 [some (.ref 6), some (.ref 1), some (.int d), some (.int (Int32.ofNat (k - 1))), l4, l5, l6] [] (rz_w v (rz_ua a 3 f2) g) 0 0 (fun q w' => ∃ (u : Int32) (f : Nat → Int32), (u = 0 ∨ u = 1) ∧ q = .inl (some (.int u)) ∧ w' = rz_w v (rz_ua a 3 f) g ∧ f n = 14 ∧ (∀ k, k < n → f k = rz_sw (rz_fam R) n n φ0 k) ∧ (u = 0 → rz_sw (rz_fam R) n n φ0 = φ0) ∧ (u = 1 → rz_mz (rz_sw (rz_fam R) n n φ0) n < rz_mz φ0 n)) := by
      intro d f2 φ2 hd h1 h2 h3 h4 h5 l4 l5 l6
      subst h3
      have h9 := ih (k - 1, d, l4, l5, l6, f2, upd φ (k - 1) (rz_Fp (rz_fam R) n φ (k - 1))) ⟨by show k - 1 ≤ n; omega, hd, h1, h2, j1, by
        rw [show k = (k - 1) + 1 by omega] at hsw
        exact hsw, h4, Nat.le_trans j2 hm1, h5⟩ (by show k - 1 < k; omega)
      dsimp only at h9
      rw [show Int32.ofNat (k - 1) - 1 = Int32.ofNat (k - 1) + Int32.ofInt (-1) from Int32.sub_eq_add_neg _ _] at h9
      exact ev_ps 2 rfl h9
    refine ev_ps 4 rfl (ev_ald rfl rfl hin ?_)
    rw [e, show rz_ua a 3 f 3 (k - 1) = φ (k - 1) from hfφ (k - 1) (by omega)]
    refine ev_ic (cd := .eq) rfl (fun h1 => ?_) (fun h1 => ?_)
    · have heq := rc_eq_t h1
      have es := rz_upd_self heq
      exact next c f φ hc h14f hfφ es.symm hc0 hm2 _ _ _
    · refine ev_ps 4 rfl (ev_ast rfl rfl hin ?_)
      rw [e]
      refine ev_w (w2 := rz_w v (rz_ua a 3 (upd f (k - 1) (rz_Fp (rz_fam R) n φ (k - 1)))) g) rfl ?_
      refine ev_ps 2 rfl (next 1 _ _ (Or.inr rfl) ?_ (fun i hi => ?_) rfl (fun q => absurd q (by decide)) (fun _ => Nat.lt_of_lt_of_le (j3 (rc_eq_f h1)) hm1) _ _ _)
      · simp only [upd]
        rw [if_neg (by omega)]; exact h14f
      · by_cases hik : i = k - 1
        · simp [upd, hik]
        · simp only [upd, hik, if_false]; exact hfφ i hi
theorem z_findFor_6 (hv : v 0 = Int32.ofNat n) (hn : n ≤ 24) (hpc : rz_pc a R n) (hl : rz_lgs R n) : rz_C xs xl 10 [.ref 6, .ref 1] (rz_w v a g) (fun q w' => q = .inl none ∧ ∃ f, w' = rz_w v (rz_ua a 3 f) g ∧ ∀ k, k ≤ n → f k = rz_S R n k) := by
  have hfl : ∀ p, p < n → rz_li (rz_fam R) p := fun p hp => rz_fam_li (hl p hp)
  refine ev_ps 3 rfl (ev_call (av := [_, _]) rfl rfl rfl rfl ⟨Nat.le_of_ble_eq_true rfl, rfl⟩ ⟨Nat.le_of_ble_eq_true rfl, Nat.le_of_ble_eq_true rfl⟩ (z_fill_6) ?_)
  rintro _ _ ⟨rfl, f0, rfl, hf0⟩
  refine ev_ps 3 rfl (ev_call (av := [_]) rfl rfl rfl rfl ⟨Nat.le_of_ble_eq_true rfl, rfl⟩ ⟨Nat.le_of_ble_eq_true rfl, Nat.le_of_ble_eq_true rfl⟩ (c_length) ?_)
  rintro _ _ ⟨rfl, rfl⟩
  rw [hv]
  refine ev_ps 1 rfl (ev_ast rfl rfl (rz_in (by omega) (by decide)) ?_)
  rw [rz_clamp (k := n) (by omega)]
  refine ev_w (w2 := rz_w v (rz_ua a 3 (upd f0 n 14)) g) rfl ?_
  refine ev_ps 4 rfl ?_
  refine ev_loop (α := Nat × Int32 × (Nat → Int32)) (fun r => 73 - r.1) (fun r => r.1 ≤ 73 ∧ (r.2.1 = 0 ∨ r.2.1 = 1) ∧ r.2.2 n = 14 ∧ (∀ k, k < n → r.2.2 k = rz_it (rz_fam R) n r.1 k) ∧ (r.2.1 = 0 → rz_sw (rz_fam R) n n (rz_it (rz_fam R) n r.1) = rz_it (rz_fam R) n r.1) ∧ (r.2.1 = 1 → rz_mz (rz_it (rz_fam R) n r.1) n + r.1 ≤ 3 * n)) (fun r => [some (.ref 6), some (.ref 1), some (.int r.2.1), some (.int (Int32.ofNat r.1))]) (fun _ => []) (fun r => rz_w v (rz_ua a 3 r.2.2) g) ?_ (0, 1, upd f0 n 14) ⟨Nat.zero_le _, Or.inr rfl, by simp [upd], fun k hk => by
    have : upd f0 n 14 k = f0 k := by simp only [upd]; rw [if_neg (by omega)]
    exact this.trans (hf0 k (by omega)), fun q => absurd (show (1 : Int32) = 0 from q) (by decide), fun _ => by show rz_mz (fun _ => 0) n + 0 ≤ 3 * n; rw [rz_mz_0]; omega⟩
  rintro ⟨j, c, f⟩ ⟨hj, hc, h14, hf, hst, hms⟩ ih
  dsimp only at hj hc h14 hf hst hms ih ⊢
  have done : rz_sw (rz_fam R) n n (rz_it (rz_fam R) n j) = rz_it (rz_fam R) n j → ∀ k, k ≤ n → f k = rz_S R n k := fun hs k hk => by
    unfold rz_S rz_at
    by_cases h : k < n
    · rw [if_pos h, hf k h, rz_it_eq hfl hn hs]; rfl
    · rw [if_neg h, show k = n by omega]; exact h14
  refine ev_ps 1 rfl (ev_if (cd := .eq) rfl (fun h => ?_) (fun h => ?_))
  · exact ev_ret rfl rfl ⟨rfl, f, rfl, done (hst (rc_eq_t h))⟩
  · have hc1 : c = 1 := hc.resolve_left (rc_eq_f h)
    have hlt := hms hc1
    refine ev_ps 2 rfl (ev_ic (cd := .ge) rfl (fun h1 => ?_) (fun h1 => ?_))
    · have := rn_ge_t (k := 73) (by omega) (by omega) h1
      omega
    · have hj' : j < 73 := rn_ge_f (k := 73) (by omega) (by omega) h1
      refine ev_ps 2 rfl (ev_call (av := [_, _]) rfl rfl rfl rfl ⟨Nat.le_of_ble_eq_true rfl, rfl⟩ ⟨Nat.le_of_ble_eq_true rfl, Nat.le_of_ble_eq_true rfl⟩ (z_findMore_6 (a := rz_ua a 3 f) (R := R) (φ0 := rz_it (rz_fam R) n j) hv hn h14 hpc hl hf (rz_it_K hfl j)) ?_)
      rintro _ _ ⟨u, f2, hu, rfl, rfl, h142, hf2, hu0, hu1⟩
      have h9 := ih (j + 1, u, f2) ⟨by show j + 1 ≤ 73; omega, hu, h142, hf2, fun q => by
        have e2 := hu0 q
        show rz_sw (rz_fam R) n n (rz_sw (rz_fam R) n n (rz_it (rz_fam R) n j)) = rz_sw (rz_fam R) n n (rz_it (rz_fam R) n j)
        rw [e2, e2], fun q => by
        have := hu1 q
        show rz_mz (rz_sw (rz_fam R) n n (rz_it (rz_fam R) n j)) n + (j + 1) ≤ 3 * n
        omega⟩ (by show 73 - (j + 1) < 73 - j; omega)
      dsimp only at h9
      rw [← rz_succ j] at h9
      exact ev_w (w2 := rz_w v (rz_ua a 3 f2) g) rfl (ev_ps 3 rfl h9)
end RZY3
