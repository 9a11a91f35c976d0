/-! the reference: cutting and improving -/
section RZM6
variable {xs : Nat → Int32} {xl : Nat} {v : Nat → Int32} {a : Nat → Nat → Int32} {g : Nat → Int64}
/-- a legal row that, if it is a jump, does not go to a place strictly between p and p + n -/
def rz_RP (p n : Nat) (o d s t : Int32) : Prop := rz_LI o d s t ∧ ∀ j, p < j → j < p + n → ¬ (¬ o < 12 ∧ ¬ 14 < o ∧ t = Int32.ofNat j)
def rz_rp (p n : Nat) (a : Nat → Nat → Int32) (k : Nat) : Prop := rz_RP p n (a 20 k) (a 21 k) (a 22 k) (a 23 k)
theorem rz_pt_rp {p n k j : Nat} {o d s t : Int32} (h : j = k → rz_RP p n o d s t) (h2 : j ≠ k → rz_rp p n a j) : rz_rp p n (rz_pt a k o d s t) j := by
  show rz_RP p n (upd (a 20) k o j) (upd (a 21) k d j) (upd (a 22) k s j) (upd (a 23) k t j)
  by_cases hj : j = k
  · simp only [upd, hj, if_true]
    exact h hj
  · simp only [upd, hj, if_false]
    exact h2 hj
theorem m_cut {p n m b : Nat} (hmi : rz_mi v a) (hv : v 21 = Int32.ofNat m) (hm : m ≤ 24) (hpn : p + n ≤ m) (hb : b ≤ 1) (hbn : b ≤ n) (hnt : ∀ j, p < j → j < p + n → rz_nt a m j) (hb1 : b = 1 → a 20 24 < 12) : rz_C xs xl 102 [.ref 25, .int (Int32.ofNat p), .int (Int32.ofNat n), .int (Int32.ofNat b)] (rz_w v a g) (fun q w' => q = .inl none ∧ ∃ v' a', w' = rz_w v' a' g ∧ rz_mf v a v' a' ∧ rz_mi v' a' ∧ v' 21 = Int32.ofNat (m - (n - b))) := by
  obtain ⟨m', hm', hv', hrows⟩ := hmi.1
  have em : m = m' := (rz_eq_iff (by omega) (by omega)).mp (hv.symm.trans hv')
  subst em
  refine ev_ps 4 rfl (ev_l (L2 := [some (.ref 25), some (.int (Int32.ofNat p)), some (.int (Int32.ofNat n)), some (.int (Int32.ofNat b)), some (.int (Int32.ofNat (n - b))), none]) (by rw [← rz_sub hbn]; rfl) ?_)
  -- the second loop, and the end
  have two : ∀ a1 : Nat → Nat → Int32, rz_mf v a v a1 → (∀ k, k < m → rz_rp p n a1 k) → rz_li a1 24 → rz_sm (a1 24) 12 → rz_sm (a1 25) 12 → ∀ l5, rz_E xs xl 102 112 [some (.ref 25), some (.int (Int32.ofNat p)), some (.int (Int32.ofNat n)), some (.int (Int32.ofNat b)), some (.int (Int32.ofNat (n - b))), l5] [] (rz_w v a1 g) 0 0 (fun q w' => q = .inl none ∧ ∃ v' a', w' = rz_w v' a' g ∧ rz_mf v a v' a' ∧ rz_mi v' a' ∧ v' 21 = Int32.ofNat (m - (n - b))) := by
    intro a1 hf1 hr1 h24 hs1 hs2 l5
    refine ev_ps 6 rfl (ev_w (w2 := rz_w (rz_up v 21 (Int32.ofNat (m - (n - b)))) a1 g) (by rw [← rz_sub (k := m) (n := n - b) (by omega), ← hv]; rfl) ?_)
    refine ev_ps 2 rfl ?_
    refine ev_loop (α := Nat × (Nat → Nat → Int32)) (fun r => m - (n - b) - r.1) (fun r => r.1 ≤ m - (n - b) ∧ rz_mf v a v r.2 ∧ (∀ k, k < r.1 → rz_li r.2 k) ∧ (∀ k, r.1 ≤ k → k < m → rz_rp p n r.2 k) ∧ rz_li r.2 24 ∧ rz_sm (r.2 24) 12 ∧ rz_sm (r.2 25) 12) (fun r => [some (.ref 25), some (.int (Int32.ofNat p)), some (.int (Int32.ofNat n)), some (.int (Int32.ofNat b)), some (.int (Int32.ofNat (n - b))), some (.int (Int32.ofNat r.1))]) (fun _ => []) (fun r => rz_w (rz_up v 21 (Int32.ofNat (m - (n - b)))) r.2 g) ?_ (0, a1) ⟨Nat.zero_le _, hf1, fun k hk => absurd hk (Nat.not_lt_zero _), fun k _ hk => hr1 k hk, h24, hs1, hs2⟩
    rintro ⟨k, a2⟩ ⟨hk, hf, hl, hr, h24, hs1, hs2⟩ ih
    dsimp only at hk hf hl hr h24 hs1 hs2 ih ⊢
    refine ev_ps 3 rfl (ev_ic (cd := .ge) rfl (fun h => ?_) (fun h => ?_))
    · have hkk : m - (n - b) ≤ k := rn_ge_t (by omega) (by omega) h
      refine ev_ps 6 rfl (ev_w (w2 := rz_w (rz_up (rz_up v 21 (Int32.ofNat (m - (n - b)))) 24 (v 24 + 1)) a2 g) rfl ?_)
      have fin : ∀ y : Int32, rz_E xs xl 102 212 [some (.ref 25), some (.int (Int32.ofNat p)), some (.int (Int32.ofNat n)), some (.int (Int32.ofNat b)), some (.int (Int32.ofNat (n - b))), some (.int (Int32.ofNat k))] [.int y, .int (v 25), .ref 25] (rz_w (rz_up (rz_up v 21 (Int32.ofNat (m - (n - b)))) 24 (v 24 + 1)) a2 g) 0 0 (fun q w' => q = .inl none ∧ ∃ v' a', w' = rz_w v' a' g ∧ rz_mf v a v' a' ∧ rz_mi v' a' ∧ v' 21 = Int32.ofNat (m - (n - b))) := fun y => by
        refine ev_ps 2 rfl (ev_w (w2 := rz_w (rz_up (rz_up (rz_up v 21 (Int32.ofNat (m - (n - b)))) 24 (v 24 + 1)) 25 (v 25 + y)) a2 g) rfl ?_)
        exact ev_ret rfl rfl ⟨rfl, _, _, rfl, ((hf.up (by omega) _).up (by omega) _).up (by omega) _, ⟨⟨m - (n - b), by omega, rfl, fun j hj => hl j (by omega)⟩, h24, hs1, hs2⟩, rfl⟩
      refine ev_ps 4 rfl (ev_if (cd := .ne) rfl (fun h => ?_) (fun h => ?_))
      · exact ev_ps 1 rfl (fin 0)
      · exact ev_ps 2 rfl (fin 1)
    · have hkk : k < m - (n - b) := rn_ge_f (by omega) (by omega) h
      have hin : ¬ (Int32.ofNat k < 0 ∨ 25 ≤ (Int32.ofNat k).toNatClampNeg) := rz_in (by omega) (by decide)
      have e := rz_clamp (k := k) (by omega)
      obtain ⟨hli, hj0⟩ := hr k (by omega) (by omega)
      have next : ∀ a3 : Nat → Nat → Int32, rz_mf v a v a3 → (∀ j, j < k + 1 → rz_li a3 j) → (∀ j, k + 1 ≤ j → j < m → rz_rp p n a3 j) → rz_li a3 24 → rz_sm (a3 24) 12 → rz_sm (a3 25) 12 → rz_E xs xl 102 182 [some (.ref 25), some (.int (Int32.ofNat p)), some (.int (Int32.ofNat n)), some (.int (Int32.ofNat b)), some (.int (Int32.ofNat (n - b))), some (.int (Int32.ofNat k))] [] (rz_w (rz_up v 21 (Int32.ofNat (m - (n - b)))) a3 g) 0 0 (fun q w' => q = .inl none ∧ ∃ v' a', w' = rz_w v' a' g ∧ rz_mf v a v' a' ∧ rz_mi v' a' ∧ v' 21 = Int32.ofNat (m - (n - b))) := by
        intro a3 hf hl hr h24 hs1 hs2
        have h9 := ih (k + 1, a3) ⟨by show k + 1 ≤ _; omega, hf, hl, hr, h24, hs1, hs2⟩ (by show m - (n - b) - (k + 1) < m - (n - b) - k; omega)
        dsimp only at h9
        rw [← rz_succ k] at h9
        exact ev_ps 2 rfl h9
      have same := next a2 hf (fun j hj => by
        by_cases hjk : j = k
        · rw [hjk]; exact hli
        · exact hl j (by omega)) (fun j h1 h2 => hr j (by omega) h2) h24 hs1 hs2
      refine ev_ps 3 rfl (ev_ald rfl rfl hin ?_)
      refine ev_ps 1 rfl (ev_ic (cd := .lt) rfl (fun h1 => same) (fun h1 => ?_))
      refine ev_ps 3 rfl (ev_ald rfl rfl hin ?_)
      refine ev_ps 1 rfl (ev_ic (cd := .gt) rfl (fun h2 => same) (fun h2 => ?_))
      refine ev_ps 3 rfl (ev_ald rfl rfl hin ?_)
      refine ev_ps 1 rfl (ev_ic (cd := .le) rfl (fun h3 => same) (fun h3 => ?_))
      rw [e] at h1 h2 h3
      have g1 : ¬ a2 20 k < 12 := rc_lt_f h1
      have g2 : ¬ 14 < a2 20 k := rc_gt_f h2
      obtain ⟨o', d', s', t', eo, ed, es, et, b1, b2, b3, b4, b5⟩ := hli
      have g3 : p < t' := by
        have : rz_cmp .le (a2 23 k) (Int32.ofNat p) = false := h3
        rw [et] at this
        exact rn_le_f (by omega) (by omega) this
      have g4 : p + n ≤ t' := by
        rcases Nat.lt_or_ge t' (p + n) with q | q
        · exact absurd ⟨g1, g2, et⟩ (hj0 t' g3 q)
        · exact q
      have g5 : ¬ o' ≤ 5 := fun q => g1 (by rw [eo]; exact (rz_lt_iff (k := 12) (by omega) (by omega)).mpr (by omega))
      refine ev_ps 4 rfl (ev_ald rfl rfl hin ?_)
      refine ev_ps 2 rfl (ev_ast rfl rfl hin ?_)
      refine ev_w (w2 := rz_w (rz_up v 21 (Int32.ofNat (m - (n - b)))) (rz_ua a2 23 (upd (a2 23) k (Int32.ofNat (t' - (n - b))))) g) (by rw [e, ← rz_sub (k := t') (n := n - b) (by omega), ← et]; rfl) ?_
      refine next _ (hf.ua (by omega) _) (fun j hj => ?_) (fun j h1 h2 => ?_) ?_ hs1 hs2
      · show rz_LI (a2 20 j) (a2 21 j) (a2 22 j) (upd (a2 23) k (Int32.ofNat (t' - (n - b))) j)
        by_cases hjk : j = k
        · subst hjk
          exact ⟨o', d', s', t' - (n - b), eo, ed, es, by simp [upd], b1, b2, b3, by omega, fun q => absurd q g5⟩
        · simp only [upd, hjk, if_false]
          exact hl j (by omega)
      · show rz_RP p n (a2 20 j) (a2 21 j) (a2 22 j) (upd (a2 23) k (Int32.ofNat (t' - (n - b))) j)
        simp only [upd]
        rw [if_neg (by omega)]
        exact hr j (by omega) h2
      · show rz_LI (a2 20 24) (a2 21 24) (a2 22 24) (upd (a2 23) k (Int32.ofNat (t' - (n - b))) 24)
        simp only [upd]
        rw [if_neg (by omega)]
        exact h24
  -- the first loop
  have one : ∀ a1 : Nat → Nat → Int32, rz_mf v a v a1 → (∀ k, k < m → rz_rp p n a1 k) → rz_li a1 24 → rz_sm (a1 24) 12 → rz_sm (a1 25) 12 → rz_E xs xl 102 43 [some (.ref 25), some (.int (Int32.ofNat p)), some (.int (Int32.ofNat n)), some (.int (Int32.ofNat b)), some (.int (Int32.ofNat (n - b))), none] [] (rz_w v a1 g) 0 0 (fun q w' => q = .inl none ∧ ∃ v' a', w' = rz_w v' a' g ∧ rz_mf v a v' a' ∧ rz_mi v' a' ∧ v' 21 = Int32.ofNat (m - (n - b))) := by
    intro a1 hf1 hr1 h24 hs1 hs2
    refine ev_ps 4 rfl (ev_l (L2 := [some (.ref 25), some (.int (Int32.ofNat p)), some (.int (Int32.ofNat n)), some (.int (Int32.ofNat b)), some (.int (Int32.ofNat (n - b))), some (.int (Int32.ofNat (p + b)))]) (by rw [← rz_add]; rfl) ?_)
    refine ev_loop (α := Nat × (Nat → Nat → Int32)) (fun r => m - r.1) (fun r => r.1 + (n - b) ≤ m ∧ rz_mf v a v r.2 ∧ (∀ k, k < m → rz_rp p n r.2 k) ∧ rz_li r.2 24 ∧ rz_sm (r.2 24) 12 ∧ rz_sm (r.2 25) 12) (fun r => [some (.ref 25), some (.int (Int32.ofNat p)), some (.int (Int32.ofNat n)), some (.int (Int32.ofNat b)), some (.int (Int32.ofNat (n - b))), some (.int (Int32.ofNat r.1))]) (fun _ => []) (fun r => rz_w v r.2 g) ?_ (p + b, a1) ⟨by show p + b + (n - b) ≤ m; omega, hf1, hr1, h24, hs1, hs2⟩
    rintro ⟨k, a2⟩ ⟨hk, hf, hr, h24, hs1, hs2⟩ ih
    dsimp only at hk hf hr h24 hs1 hs2 ih ⊢
    refine ev_ps 5 rfl (ev_ic (cd := .ge) rfl (fun h => two a2 hf hr h24 hs1 hs2 _) (fun h => ?_))
    rw [rz_add, hv] at h
    have hkk : k + (n - b) < m := rn_ge_f (by omega) (by omega) h
    have hin : ¬ (Int32.ofNat k + Int32.ofNat (n - b) < 0 ∨ 25 ≤ (Int32.ofNat k + Int32.ofNat (n - b)).toNatClampNeg) := by rw [rz_add]; exact rz_in (by omega) (by decide)
    refine ev_ps 7 rfl (ev_ald rfl rfl hin ?_)
    refine ev_ps 5 rfl (ev_ald rfl rfl hin ?_)
    refine ev_ps 5 rfl (ev_ald rfl rfl hin ?_)
    refine ev_ps 5 rfl (ev_ald rfl rfl hin ?_)
    refine ev_call (av := [.ref 25, .int (Int32.ofNat k), .int (a2 20 (k + (n - b))), .int (a2 21 (k + (n - b))), .int (a2 22 (k + (n - b))), .int (a2 23 (k + (n - b)))]) rfl (by rw [rz_add, rz_clamp (by omega)]; rfl) rfl rfl ⟨Nat.le_of_ble_eq_true rfl, rfl⟩ ⟨Nat.le_of_ble_eq_true rfl, Nat.le_of_ble_eq_true rfl⟩ (m_put (k := k) (by omega) _ _ _ _) ?_
    rintro _ _ ⟨rfl, rfl⟩
    have h9 := ih (k + 1, rz_pt a2 k (a2 20 (k + (n - b))) (a2 21 (k + (n - b))) (a2 22 (k + (n - b))) (a2 23 (k + (n - b)))) ⟨by show k + 1 + (n - b) ≤ m; omega, rz_pt_mf hf, fun j hj => rz_pt_rp (fun _ => hr _ hkk) (fun _ => hr j hj), rz_pt_li (fun q => absurd q (by omega)) (fun _ => h24), hs1, hs2⟩ (by show m - (k + 1) < m - k; omega)
    dsimp only at h9
    rw [← rz_succ k] at h9
    exact ev_ps 2 rfl h9
  have hr0 : ∀ k, k < m → rz_rp p n a k := fun k hk => ⟨hrows k hk, fun j h1 h2 => hnt j h1 h2 k hk⟩
  refine ev_ps 2 rfl (ev_ic (cd := .ne) rfl (fun h => one a rz_mf.rf hr0 hmi.2.1 hmi.2.2.1 hmi.2.2.2) (fun h => ?_))
  have eb : b = 1 := (rz_eq_iff (k := 1) (by omega) (by omega)).mp (rc_ne_f h)
  have hin : ¬ ((24 : Int32) < 0 ∨ 25 ≤ (24 : Int32).toNatClampNeg) := by decide
  refine ev_ps 5 rfl (ev_ald rfl rfl hin ?_)
  refine ev_ps 3 rfl (ev_ald rfl rfl hin ?_)
  refine ev_ps 3 rfl (ev_ald rfl rfl hin ?_)
  refine ev_ps 3 rfl (ev_ald rfl rfl hin ?_)
  refine ev_call (av := [.ref 25, .int (Int32.ofNat p), .int (a 20 24), .int (a 21 24), .int (a 22 24), .int (a 23 24)]) rfl rfl rfl rfl ⟨Nat.le_of_ble_eq_true rfl, rfl⟩ ⟨Nat.le_of_ble_eq_true rfl, Nat.le_of_ble_eq_true rfl⟩ (m_put (k := p) (by omega) _ _ _ _) ?_
  rintro _ _ ⟨rfl, rfl⟩
  exact one _ (rz_pt_mf rz_mf.rf) (fun j hj => rz_pt_rp (fun _ => ⟨hmi.2.1, fun _ _ _ q => q.1 (hb1 eb)⟩) (fun _ => hr0 j hj)) (rz_pt_li (fun q => absurd q (by omega)) (fun _ => hmi.2.1)) hmi.2.2.1 hmi.2.2.2
theorem rz_ca.nt {a' : Nat → Nat → Int32} {m j : Nat} (h : rz_ca a a') (hm : m ≤ 24) (hn : rz_nt a m j) : rz_nt a' m j := fun k hk q => by
  rw [h.2.1 20 (by omega) (by omega) k (by omega), h.2.1 23 (by omega) (by omega) k (by omega)] at q
  exact hn k hk q
theorem m_improved {p m : Nat} (hmi : rz_mi v a) (hv : v 21 = Int32.ofNat m) (hm : m ≤ 24) (hp : p < m) : rz_C xs xl 98 [.ref 25, .int (Int32.ofNat p)] (rz_w v a g) (fun q w' => ∃ (u : Int32) (v' : Nat → Int32) (a' : Nat → Nat → Int32) (m' : Nat), q = .inl (some (.int u)) ∧ w' = rz_w v' a' g ∧ rz_mf v a v' a' ∧ rz_mi v' a' ∧ v' 21 = Int32.ofNat m' ∧ m' ≤ 24 ∧ ((u = -1 ∧ m' = m) ∨ ∃ b : Nat, b ≤ 1 ∧ u = Int32.ofNat b ∧ m' + 1 ≤ m + b)) := by
  refine ev_ps 1 rfl (ev_call (av := [_]) rfl rfl rfl rfl ⟨Nat.le_of_ble_eq_true rfl, rfl⟩ ⟨Nat.le_of_ble_eq_true rfl, Nat.le_of_ble_eq_true rfl⟩ (m_findLives hmi) ?_)
  rintro _ _ ⟨rfl, f0, rfl⟩
  refine ev_ps 2 rfl ?_
  refine ev_loop (α := Nat × Option Value × Option Value × (Nat → Int32) × (Nat → Nat → Int32)) (fun r => r.1) (fun r => r.1 ≤ 3 ∧ rz_mf v a r.2.2.2.1 r.2.2.2.2 ∧ rz_mi r.2.2.2.1 r.2.2.2.2 ∧ r.2.2.2.1 21 = Int32.ofNat m) (fun r => [some (.ref 25), some (.int (Int32.ofNat p)), some (.int (Int32.ofNat r.1)), r.2.1, r.2.2.1]) (fun _ => []) (fun r => rz_w r.2.2.2.1 r.2.2.2.2 g) ?_ (3, none, none, v, rz_ua a 26 f0) ⟨Nat.le_refl _, rz_mf.rf.ua (by omega) _, hmi, hv⟩
  rintro ⟨n, l3, l4, v1, a1⟩ ⟨hn, hf, hmi1, hv1⟩ ih
  dsimp only at hn hf hmi1 hv1 ih ⊢
  refine ev_ps 1 rfl (ev_if (cd := .le) rfl (fun h => ?_) (fun h => ?_))
  · exact ev_ps 1 rfl (ev_ret rfl rfl ⟨-1, _, _, m, rfl, rfl, hf, hmi1, hv1, hm, Or.inl ⟨rfl, rfl⟩⟩)
  · have hn1 : 0 < n := rn_le_f (k := 0) (by omega) (by omega) h
    have next : ∀ (l3 l4 : Option Value) (v2 : Nat → Int32) (a2 : Nat → Nat → Int32), rz_mf v a v2 a2 → rz_mi v2 a2 → v2 21 = Int32.ofNat m → rz_E xs xl 98 91 [some (.ref 25), some (.int (Int32.ofNat p)), some (.int (Int32.ofNat n)), l3, l4] [] (rz_w v2 a2 g) 0 0 (fun q w' => ∃ (u : Int32) (v' : Nat → Int32) (a' : Nat → Nat → Int32) (m' : Nat), q = .inl (some (.int u)) ∧ w' = rz_w v' a' g ∧ rz_mf v a v' a' ∧ rz_mi v' a' ∧ v' 21 = Int32.ofNat m' ∧ m' ≤ 24 ∧ ((u = -1 ∧ m' = m) ∨ ∃ b : Nat, b ≤ 1 ∧ u = Int32.ofNat b ∧ m' + 1 ≤ m + b)) := by
      intro l3 l4 v2 a2 hf2 hmi2 hv2
      have h9 := ih (n - 1, l3, l4, v2, a2) ⟨by show n - 1 ≤ 3; omega, hf2, hmi2, hv2⟩ (by show n - 1 < n; omega)
      dsimp only at h9
      rw [← rz_sub (k := n) (n := 1) (by omega), show Int32.ofNat n - Int32.ofNat 1 = Int32.ofNat n + Int32.ofInt (-1) from Int32.sub_eq_add_neg _ _] at h9
      exact ev_ps 2 rfl h9
    refine ev_ps 3 rfl (ev_call (av := [_, _, _]) rfl rfl rfl rfl ⟨Nat.le_of_ble_eq_true rfl, rfl⟩ ⟨Nat.le_of_ble_eq_true rfl, Nat.le_of_ble_eq_true rfl⟩ (m_isRow hv1 hm (by omega) hn) ?_)
    rintro _ _ ⟨⟨u, hu, hP, rfl⟩, rfl⟩
    refine ev_if (cd := .eq) rfl (fun h1 => next _ _ _ _ hf hmi1 hv1) (fun h1 => ?_)
    obtain ⟨hpn, hnt⟩ := hP (hu.resolve_left (rc_eq_f h1))
    refine ev_ps 4 rfl ?_
    refine ev_call (av := [.ref 25, .int (Int32.ofNat (p + n))]) rfl (by rw [← rz_add]; rfl) rfl rfl ⟨Nat.le_of_ble_eq_true rfl, rfl⟩ ⟨Nat.le_of_ble_eq_true rfl, Nat.le_of_ble_eq_true rfl⟩ (m_livesAt hv1 hm (by omega)) ?_
    rintro _ _ ⟨rfl, rfl⟩
    refine ev_ps 7 rfl (ev_w (w2 := rz_w (rz_up v1 26 (v1 26 + 1)) a1 g) rfl ?_)
    have hrows : ∀ k, k < m → rz_li a1 k := by
      obtain ⟨m', hm', hv', hr⟩ := hmi1.1
      have em : m' = m := (rz_eq_iff (by omega) (by omega)).mp (hv'.symm.trans hv1)
      subst em
      exact hr
    -- the end of a turn
    have fin : ∀ (b : Nat) (l3 l4 : Option Value) (v2 : Nat → Int32) (a2 : Nat → Nat → Int32), b ≤ 1 → b ≤ n → rz_mf v a v2 a2 → rz_mi v2 a2 → v2 21 = Int32.ofNat m → (∀ j, p < j → j < p + n → rz_nt a2 m j) → (b = 1 → a2 20 24 < 12) → rz_E xs xl 98 73 [some (.ref 25), some (.int (Int32.ofNat p)), some (.int (Int32.ofNat n)), l3, l4] [.int (Int32.ofNat b)] (rz_w v2 a2 g) 0 0 (fun q w' => ∃ (u : Int32) (v' : Nat → Int32) (a' : Nat → Nat → Int32) (m' : Nat), q = .inl (some (.int u)) ∧ w' = rz_w v' a' g ∧ rz_mf v a v' a' ∧ rz_mi v' a' ∧ v' 21 = Int32.ofNat m' ∧ m' ≤ 24 ∧ ((u = -1 ∧ m' = m) ∨ ∃ b : Nat, b ≤ 1 ∧ u = Int32.ofNat b ∧ m' + 1 ≤ m + b)) := by
      intro b l3 l4 v2 a2 hb hbn hf2 hmi2 hv2 hnt2 hb1
      refine ev_ps 2 rfl (ev_if (cd := .lt) rfl (fun h2 => ?_) (fun h2 => ?_))
      · exact absurd (rn_lt_t (k := 0) (by omega) (by omega) h2) (by omega)
      · refine ev_ps 4 rfl (ev_call (av := [_, _, _, _]) rfl rfl rfl rfl ⟨Nat.le_of_ble_eq_true rfl, rfl⟩ ⟨Nat.le_of_ble_eq_true rfl, Nat.le_of_ble_eq_true rfl⟩ (m_cut hmi2 hv2 hm hpn hb hbn hnt2 hb1) ?_)
        rintro _ _ ⟨rfl, v3, a3, rfl, hf3, hmi3, hv3⟩
        exact ev_ps 1 rfl (ev_ret rfl rfl ⟨_, _, _, m - (n - b), rfl, rfl, hf2.tr hf3, hmi3, hv3, by omega, Or.inr ⟨b, hb, rfl, by omega⟩⟩)
    have fin1 : ∀ (l3 l4 : Option Value) (v2 : Nat → Int32) (a2 : Nat → Nat → Int32), rz_mf v a v2 a2 → rz_mi v2 a2 → v2 21 = Int32.ofNat m → rz_E xs xl 98 72 [some (.ref 25), some (.int (Int32.ofNat p)), some (.int (Int32.ofNat n)), l3, l4] [] (rz_w v2 a2 g) 0 0 (fun q w' => ∃ (u : Int32) (v' : Nat → Int32) (a' : Nat → Nat → Int32) (m' : Nat), q = .inl (some (.int u)) ∧ w' = rz_w v' a' g ∧ rz_mf v a v' a' ∧ rz_mi v' a' ∧ v' 21 = Int32.ofNat m' ∧ m' ≤ 24 ∧ ((u = -1 ∧ m' = m) ∨ ∃ b : Nat, b ≤ 1 ∧ u = Int32.ofNat b ∧ m' + 1 ≤ m + b)) := by
      intro l3 l4 v2 a2 hf2 hmi2 hv2
      refine ev_ps 3 rfl (ev_if (cd := .lt) rfl (fun h2 => next _ _ _ _ hf2 hmi2 hv2) (fun h2 => ?_))
      exact absurd (show (-1 : Int32) < 0 by decide) (rc_lt_f h2)
    refine ev_ps 6 rfl ?_
    refine ev_call (av := [.ref 25, .int (Int32.ofNat p), .int (Int32.ofNat n), .int (Int32.ofNat p), .int (Int32.ofNat 0), _]) rfl rfl rfl rfl ⟨Nat.le_of_ble_eq_true rfl, rfl⟩ ⟨Nat.le_of_ble_eq_true rfl, Nat.le_of_ble_eq_true rfl⟩ (m_agree _ (by omega) (by omega) (fun k h1 h2 => hrows k (by omega)) (fun k h1 h2 => absurd h2 (by omega))) ?_
    rintro _ _ ⟨⟨u2, hu2, rfl⟩, f1, f2, rfl⟩
    have hf2 : rz_mf v a (rz_up v1 26 (v1 26 + 1)) (rz_ua (rz_ua a1 27 f1) 28 f2) := ((hf.up (by omega) _).ua (by omega) _).ua (by omega) _
    refine ev_if (cd := .eq) rfl (fun h3 => ?_) (fun h3 => ?_)
    · refine ev_ps 2 rfl (ev_ic (cd := .le) rfl (fun h4 => fin1 _ _ _ _ hf2 hmi1 hv1) (fun h4 => ?_))
      refine ev_ps 4 rfl (ev_call (av := [_, _, _, _]) rfl rfl rfl rfl ⟨Nat.le_of_ble_eq_true rfl, rfl⟩ ⟨Nat.le_of_ble_eq_true rfl, Nat.le_of_ble_eq_true rfl⟩ (m_isFound _ hmi1 hv1 hm hpn) ?_)
      rintro _ _ ⟨u3, y, a3, hu3, rfl, hca, hc24, rfl⟩
      have hf3 : rz_mf v a (rz_up (rz_up v1 26 (v1 26 + 1)) 26 y) a3 := ⟨(hf2.up (by omega) _).1, fun k hk => (hca.1 k hk).trans (hf2.2 k hk)⟩
      have hmi3 : rz_mi (rz_up (rz_up v1 26 (v1 26 + 1)) 26 y) a3 := hca.mi (v := rz_up (rz_up v1 26 (v1 26 + 1)) 26 y) hmi1
      refine ev_if (cd := .eq) rfl (fun h5 => fin1 _ _ _ _ hf3 hmi3 hv1) (fun h5 => ?_)
      exact ev_ps 2 rfl (fin 1 _ _ _ _ (by omega) (by omega) hf3 hmi3 hv1 (fun j h1 h2 => hca.nt hm (hnt j h1 h2)) (fun _ => hc24 (hu3.resolve_left (rc_eq_f h5))))
    · exact ev_ps 2 rfl (fin 0 _ _ _ _ (by omega) (by omega) hf2 hmi1 hv1 hnt (fun q => absurd q (by decide)))
theorem m_improve (hmi : rz_mi v a) : rz_C xs xl 97 [.ref 25] (rz_w v a g) (rz_mp v a g rz_pi) := by
  obtain ⟨n, hn, hv, hrows⟩ := hmi.1
  refine ev_ps 3 rfl (ev_w (w2 := rz_w (rz_up v 20 0) a g) rfl ?_)
  refine ev_ps 5 rfl ?_
  refine ev_loop (α := Nat × Nat × Option Value × (Nat → Int32) × (Nat → Nat → Int32)) (fun r => r.2.1 - r.1) (fun r => r.1 ≤ 24 ∧ r.2.1 ≤ 24 ∧ rz_mf v a r.2.2.2.1 r.2.2.2.2 ∧ rz_mi r.2.2.2.1 r.2.2.2.2 ∧ r.2.2.2.1 21 = Int32.ofNat r.2.1) (fun r => [some (.ref 25), some (.int (v 21)), some (.int (Int32.ofNat r.1)), r.2.2.1]) (fun _ => []) (fun r => rz_w r.2.2.2.1 r.2.2.2.2 g) ?_ (0, n, none, rz_up v 20 0, a) ⟨Nat.zero_le _, hn, rz_mf.rf.up (by omega) _, hmi, hv⟩
  rintro ⟨p, m, l3, v1, a1⟩ ⟨hp, hm, hf, hmi1, hv1⟩ ih
  dsimp only at hp hm hf hmi1 hv1 ih ⊢
  refine ev_ps 3 rfl (ev_ic (cd := .ge) rfl (fun h => ?_) (fun h => ?_))
  · exact ev_ps 4 rfl (ev_ret rfl rfl ⟨⟨_, rfl⟩, _, _, rfl, hf, hmi1⟩)
  · rw [hv1] at h
    have hpm : p < m := rn_ge_f (by omega) (by omega) h
    refine ev_ps 2 rfl (ev_call (av := [_, _]) rfl rfl rfl rfl ⟨Nat.le_of_ble_eq_true rfl, rfl⟩ ⟨Nat.le_of_ble_eq_true rfl, Nat.le_of_ble_eq_true rfl⟩ (m_improved hmi1 hv1 hm hpm) ?_)
    rintro _ _ ⟨u, v2, a2, m2, rfl, rfl, hf2, hmi2, hv2, hm2, hor⟩
    have next : ∀ (p2 : Nat) (l3 : Option Value), p2 ≤ 24 → m2 - p2 < m - p → rz_E xs xl 97 39 [some (.ref 25), some (.int (v 21)), some (.int (Int32.ofNat p)), l3] [.int (Int32.ofNat p2)] (rz_w v2 a2 g) 0 0 (rz_mp v a g rz_pi) := by
      intro p2 l3 hp2 hlt
      have h9 := ih (p2, m2, l3, v2, a2) ⟨hp2, hm2, hf.tr hf2, hmi2, hv2⟩ hlt
      exact ev_ps 2 rfl h9
    rcases hor with ⟨rfl, rfl⟩ | ⟨b, hb, rfl, hmb⟩
    · refine ev_ps 2 rfl (ev_if (cd := .ge) rfl (fun h2 => absurd (rc_ge_t h2) (by decide)) (fun h2 => ?_))
      have h9 := next (p + 1) (some (.int (-1))) (by omega) (by omega)
      rw [← rz_succ p] at h9
      exact ev_ps 4 rfl h9
    · refine ev_ps 2 rfl (ev_if (cd := .ge) rfl (fun h2 => ?_) (fun h2 => ?_))
      · have h9 := next (p + b) (some (.int (Int32.ofNat b))) (by omega) (by omega)
        rw [← rz_add p b] at h9
        exact ev_ps 3 rfl h9
      · exact absurd (rn_ge_f (k := 0) (by omega) (by omega) h2) (by omega)
end RZM6
