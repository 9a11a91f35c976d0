/-! the reference, exactly: the search, the cut, improving -/
section RZX3
variable {xs : Nat → Int32} {xl : Nat} {v : Nat → Int32} {a : Nat → Nat → Int32} {g : Nat → Int64} {R : Nat → rz_Q}
theorem rz_ca.rw {a' : Nat → Nat → Int32} {k : Nat} {q : rz_Q} (h : rz_ca a a') (hk : k < 24) (hr : rz_rw a k q) : rz_rw a' k q := by
  unfold rz_rw at hr ⊢
  rw [h.2.1 20 (by omega) (by omega) k hk, h.2.1 21 (by omega) (by omega) k hk, h.2.1 22 (by omega) (by omega) k hk, h.2.1 23 (by omega) (by omega) k hk]
  exact hr
/-- and the reference's lives are as they were -/
def rz_cb (a a' : Nat → Nat → Int32) : Prop := rz_ca a a' ∧ a' 26 = a 26
theorem rz_cb.put {a' : Nat → Nat → Int32} (h : rz_cb a a') {o d s t : Int32} (hLI : rz_LI o d s t) : rz_cb a (rz_pt a' 24 o d s t) := ⟨h.1.put hLI, h.2⟩
theorem rz_cb.ua {a' : Nat → Nat → Int32} (h : rz_cb a a') {i : Nat} (hi : 27 ≤ i) (f : Nat → Int32) : rz_cb a (rz_ua a' i f) := ⟨h.1.ua (by omega) f, (show rz_ua a' i f 26 = a' 26 from if_neg (by omega)).trans h.2⟩
theorem rz_cb.rw {a' : Nat → Nat → Int32} {k : Nat} {q : rz_Q} (h : rz_cb a a') (hk : k < 24) (hr : rz_rw a k q) : rz_rw a' k q := h.1.rw hk hr
theorem m_isFoundX {p m n l : Nat} (z : Int32) (hli : rz_li a 24) (hn : n ≤ 24) (hpm : p + m ≤ n) (hpr : rz_pr a R n) (hl : rz_lgs R n) (hv6 : v 26 = Int32.ofNat l) : rz_C xs xl 100 [.ref 25, .int (Int32.ofNat p), .int (Int32.ofNat m), .int z] (rz_w v a g) (fun r w' => ∃ (j : Nat) (a' : Nat → Nat → Int32), j ≤ 1920 ∧ (∀ i, i < j → ¬ rz_ht R p m z i) ∧ (j < 1920 → rz_ht R p m z j) ∧ r = .inl (some (.int (if j < 1920 then 1 else 0))) ∧ rz_cb a a' ∧ (j < 1920 → rz_rw a' 24 (rz_cq j)) ∧ w' = rz_w (rz_up v 26 (Int32.ofNat (l + rz_ct (rz_ch R p m) (if j < 1920 then j + 1 else 1920)))) a' g) := by
  refine ev_ps 2 rfl (ev_w (w2 := rz_w (rz_up v 26 (Int32.ofNat (l + rz_ct (rz_ch R p m) 0))) a g) (by
    have e : rz_up v 26 (Int32.ofNat (l + rz_ct (rz_ch R p m) 0)) = v := by
      funext j
      unfold rz_up
      by_cases hj : j = 26
      · rw [if_pos hj, hj, hv6]; rfl
      · rw [if_neg hj]
    rw [e]) ?_)
  refine ev_loop (α := Nat × Option Value × Option Value × Option Value × Option Value × (Nat → Nat → Int32)) (fun r => 1920 - r.1) (fun r => r.1 ≤ 1920 ∧ rz_cb a r.2.2.2.2.2 ∧ ∀ i, i < r.1 → ¬ rz_ht R p m z i) (fun r => [some (.ref 25), some (.int (Int32.ofNat p)), some (.int (Int32.ofNat m)), some (.int z), some (.int (Int32.ofNat r.1)), r.2.1, r.2.2.1, r.2.2.2.1, r.2.2.2.2.1]) (fun _ => []) (fun r => rz_w (rz_up v 26 (Int32.ofNat (l + rz_ct (rz_ch R p m) r.1))) r.2.2.2.2.2 g) ?_ (0, none, none, none, none, a) ⟨Nat.zero_le _, ⟨⟨fun _ _ => rfl, fun _ _ _ _ _ => rfl, rfl, rfl, hli⟩, rfl⟩, fun i hi => absurd hi (Nat.not_lt_zero _)⟩
  rintro ⟨k, t5, t6, t7, t8, a1⟩ ⟨hk, hca, hno⟩ ih
  dsimp only at hk hca hno ih ⊢
  refine ev_ps 2 rfl (ev_ic (cd := .ge) rfl (fun h => ?_) (fun h => ?_))
  · have hkn : 1920 ≤ k := rn_ge_t (k := 1920) (by omega) (by omega) h
    have e : k = 1920 := by omega
    subst e
    exact ev_ps 1 rfl (ev_ret rfl rfl ⟨1920, a1, Nat.le_refl _, hno, fun q => absurd q (by omega), rfl, hca, fun q => absurd q (by omega), rfl⟩)
  · have hk' : k < 1920 := rn_ge_f (k := 1920) (by omega) (by omega) h
    obtain ⟨k1, k2, k3, k4⟩ := rz_kd k hk'
    have next : ∀ (t5 t6 t7 t8 : Option Value) (y : Int32) (a1 : Nat → Nat → Int32), rz_cb a a1 → y = Int32.ofNat (l + rz_ct (rz_ch R p m) (k + 1)) → ¬ rz_ht R p m z k → rz_E xs xl 100 112 [some (.ref 25), some (.int (Int32.ofNat p)), some (.int (Int32.ofNat m)), some (.int z), some (.int (Int32.ofNat k)), t5, t6, t7, t8] [] (rz_w (rz_up v 26 y) a1 g) 0 0 (fun r w' => ∃ (j : Nat) (a' : Nat → Nat → Int32), j ≤ 1920 ∧ (∀ i, i < j → ¬ rz_ht R p m z i) ∧ (j < 1920 → rz_ht R p m z j) ∧ r = .inl (some (.int (if j < 1920 then 1 else 0))) ∧ rz_cb a a' ∧ (j < 1920 → rz_rw a' 24 (rz_cq j)) ∧ w' = rz_w (rz_up v 26 (Int32.ofNat (l + rz_ct (rz_ch R p m) (if j < 1920 then j + 1 else 1920)))) a' g) := by
      intro t5 t6 t7 t8 y a1 hca hy hnk
      subst hy
      have h9 := ih (k + 1, t5, t6, t7, t8, a1) ⟨by show k + 1 ≤ 1920; omega, hca, fun i hi => by
        by_cases hik : i = k
        · rw [hik]; exact hnk
        · exact hno i (by have : i < k + 1 := hi; omega)⟩ (by show 1920 - (k + 1) < 1920 - k; omega)
      dsimp only at h9
      rw [← rz_succ k] at h9
      exact ev_ps 2 rfl h9
    have skip : ¬ rz_ch R p m k → rz_E xs xl 100 112 [some (.ref 25), some (.int (Int32.ofNat p)), some (.int (Int32.ofNat m)), some (.int z), some (.int (Int32.ofNat k)), some (.int (Int32.ofNat (k / 192))), some (.int (Int32.ofNat (1 + k / 64 % 3))), some (.int (Int32.ofNat (k / 16 % 4))), some (.int (Int32.ofNat (k % 16)))] [] (rz_w (rz_up v 26 (Int32.ofNat (l + rz_ct (rz_ch R p m) k))) a1 g) 0 0 (fun r w' => ∃ (j : Nat) (a' : Nat → Nat → Int32), j ≤ 1920 ∧ (∀ i, i < j → ¬ rz_ht R p m z i) ∧ (j < 1920 → rz_ht R p m z j) ∧ r = .inl (some (.int (if j < 1920 then 1 else 0))) ∧ rz_cb a a' ∧ (j < 1920 → rz_rw a' 24 (rz_cq j)) ∧ w' = rz_w (rz_up v 26 (Int32.ofNat (l + rz_ct (rz_ch R p m) (if j < 1920 then j + 1 else 1920)))) a' g) := fun hnc =>
      next _ _ _ _ _ _ hca (by rw [rz_ct, rz_dc_f hnc]; rfl) (fun q => hnc q.1)
    refine ev_ps 22 rfl ?_
    refine ev_l (L2 := [some (.ref 25), some (.int (Int32.ofNat p)), some (.int (Int32.ofNat m)), some (.int z), some (.int (Int32.ofNat k)), some (.int (Int32.ofNat (k / 192))), some (.int (Int32.ofNat (1 + k / 64 % 3))), some (.int (Int32.ofNat (k / 16 % 4))), some (.int (Int32.ofNat (k % 16)))]) (by rw [← k1, ← k2, ← k3, ← k4]; rfl) ?_
    have try1 : rz_ch R p m k → rz_E xs xl 100 73 [some (.ref 25), some (.int (Int32.ofNat p)), some (.int (Int32.ofNat m)), some (.int z), some (.int (Int32.ofNat k)), some (.int (Int32.ofNat (k / 192))), some (.int (Int32.ofNat (1 + k / 64 % 3))), some (.int (Int32.ofNat (k / 16 % 4))), some (.int (Int32.ofNat (k % 16)))] [] (rz_w (rz_up v 26 (Int32.ofNat (l + rz_ct (rz_ch R p m) k))) a1 g) 0 0 (fun r w' => ∃ (j : Nat) (a' : Nat → Nat → Int32), j ≤ 1920 ∧ (∀ i, i < j → ¬ rz_ht R p m z i) ∧ (j < 1920 → rz_ht R p m z j) ∧ r = .inl (some (.int (if j < 1920 then 1 else 0))) ∧ rz_cb a a' ∧ (j < 1920 → rz_rw a' 24 (rz_cq j)) ∧ w' = rz_w (rz_up v 26 (Int32.ofNat (l + rz_ct (rz_ch R p m) (if j < 1920 then j + 1 else 1920)))) a' g) := by
      intro hch
      have hlg := rz_ch_lg hk' hch
      have hLI : rz_LI (Int32.ofNat (k / 192)) (Int32.ofNat (1 + k / 64 % 3)) (Int32.ofNat (k / 16 % 4)) (Int32.ofNat (k % 16)) := ⟨_, _, _, _, rfl, rfl, rfl, rfl, hlg.1, hlg.2.1, hlg.2.2.1, hlg.2.2.2.1, hlg.2.2.2.2⟩
      refine ev_ps 6 rfl ?_
      refine ev_call (av := [.ref 25, .int (Int32.ofNat 24), _, _, _, _]) rfl rfl rfl rfl ⟨Nat.le_of_ble_eq_true rfl, rfl⟩ ⟨Nat.le_of_ble_eq_true rfl, Nat.le_of_ble_eq_true rfl⟩ (m_put (k := 24) (by omega) _ _ _ _) ?_
      rintro _ _ ⟨rfl, rfl⟩
      have hca2 := hca.put hLI
      have hrow24 : rz_rw (rz_pt a1 24 (Int32.ofNat (k / 192)) (Int32.ofNat (1 + k / 64 % 3)) (Int32.ofNat (k / 16 % 4)) (Int32.ofNat (k % 16))) 24 (rz_cq k) := by
        refine ⟨hlg, ?_, ?_, ?_, ?_⟩
        · show upd (a1 20) 24 _ 24 = _; simp [upd]; rfl
        · show upd (a1 21) 24 _ 24 = _; simp only [upd, if_true]; rfl
        · show upd (a1 22) 24 _ 24 = _; simp only [upd, if_true]; rfl
        · show upd (a1 23) 24 _ 24 = _; simp only [upd, if_true]; rfl
      have ecount : Int32.ofNat (l + rz_ct (rz_ch R p m) k) + Int32.ofInt 1 = Int32.ofNat (l + rz_ct (rz_ch R p m) (k + 1)) := by
        rw [rz_ct, rz_dc_t hch, if_pos rfl, ← Nat.add_assoc]
        exact rz_succ _
      refine ev_ps 6 rfl (ev_w (w2 := rz_w (rz_up v 26 (Int32.ofNat (l + rz_ct (rz_ch R p m) (k + 1)))) (rz_pt a1 24 (Int32.ofNat (k / 192)) (Int32.ofNat (1 + k / 64 % 3)) (Int32.ofNat (k / 16 % 4)) (Int32.ofNat (k % 16))) g) (by rw [← ecount]; rfl) ?_)
      refine ev_ps 6 rfl ?_
      refine ev_call (av := [.ref 25, .int (Int32.ofNat p), .int (Int32.ofNat m), .int (Int32.ofNat 24), .int (Int32.ofNat 1), .int z]) rfl rfl rfl rfl ⟨Nat.le_of_ble_eq_true rfl, rfl⟩ ⟨Nat.le_of_ble_eq_true rfl, Nat.le_of_ble_eq_true rfl⟩ (m_agreeX (R1 := R) (R2 := fun _ => rz_cq k) z (by omega) (by omega) (fun i hi => hca2.rw (by omega) (rz_pr_rw hpr hl (by omega))) (fun i hi => by
        have e0 : i = 0 := by omega
        subst e0
        exact hrow24)) ?_
      rintro _ _ ⟨⟨u, hu, hui, rfl⟩, f1, f2, rfl⟩
      have hca3 := (hca2.ua (i := 27) (by omega) f1).ua (i := 28) (by omega) f2
      refine ev_if (cd := .eq) rfl (fun h => next _ _ _ _ _ _ hca3 rfl (fun q => ?_)) (fun h => ?_)
      · exact absurd ((rc_eq_t h).symm.trans (hui.mpr q.2)) (by decide)
      · have hht : rz_ht R p m z k := ⟨hch, hui.mp (hu.resolve_left (rc_eq_f h))⟩
        refine ev_ps 1 rfl (ev_ret rfl rfl ⟨k, _, by omega, hno, fun _ => hht, by rw [if_pos hk']; rfl, hca3, fun _ => hrow24, ?_⟩)
        rw [if_pos hk']
    refine ev_ps 2 rfl (ev_ic (cd := .ge) rfl (fun h => ?_) (fun h => ?_))
    · have h6 : 6 ≤ k / 192 := rn_ge_t (k := 6) (by omega) (by omega) h
      have ech : rz_ch R p m k = rz_cd R p m (k % 16) := by unfold rz_ch; rw [if_neg (by omega)]
      refine ev_ps 4 rfl (ev_call (av := [_, _, _, _]) rfl rfl rfl rfl ⟨Nat.le_of_ble_eq_true rfl, rfl⟩ ⟨Nat.le_of_ble_eq_true rfl, Nat.le_of_ble_eq_true rfl⟩ (m_isCandidateX (a := a1) (R := R) (by omega) (by omega) (fun i h1 h2 => hca.rw (by omega) (rz_pr_rw hpr hl (by omega)))) ?_)
      rintro _ _ ⟨⟨u, hu, hui, rfl⟩, rfl⟩
      refine ev_if (cd := .eq) rfl (fun h => skip ?_) (fun h => try1 ?_)
      · rw [ech]; exact fun q => absurd ((rc_eq_t h).symm.trans (hui.mpr q)) (by decide)
      · rw [ech]; exact hui.mp (hu.resolve_left (rc_eq_f h))
    · have h6 : k / 192 < 6 := rn_ge_f (k := 6) (by omega) (by omega) h
      have ech : rz_ch R p m k = (k % 16 < 4) := by unfold rz_ch; rw [if_pos h6]
      refine ev_ps 2 rfl (ev_ic (cd := .ge) rfl (fun h => skip ?_) (fun h => ?_))
      · have h4 : 4 ≤ k % 16 := rn_ge_t (k := 4) (by omega) (by omega) h
        rw [ech]; omega
      · have h4 : k % 16 < 4 := rn_ge_f (k := 4) (by omega) (by omega) h
        exact ev_ps 1 rfl (try1 (by rw [ech]; exact h4))
/-- the values of row k -/
def rz_ro (a : Nat → Nat → Int32) (k : Nat) (q : rz_Q) : Prop := a 20 k = Int32.ofNat q.1 ∧ a 21 k = Int32.ofNat q.2.1 ∧ a 22 k = Int32.ofNat q.2.2.1 ∧ a 23 k = Int32.ofNat q.2.2.2
theorem rz_pt_ro {k j : Nat} {o d s t : Int32} {q : rz_Q} (h : j = k → o = Int32.ofNat q.1 ∧ d = Int32.ofNat q.2.1 ∧ s = Int32.ofNat q.2.2.1 ∧ t = Int32.ofNat q.2.2.2) (h2 : j ≠ k → rz_ro a j q) : rz_ro (rz_pt a k o d s t) j q := by
  show upd (a 20) k o j = _ ∧ upd (a 21) k d j = _ ∧ upd (a 22) k s j = _ ∧ upd (a 23) k t j = _
  by_cases hj : j = k
  · simp only [upd, hj, if_true]
    exact h hj
  · simp only [upd, hj, if_false]
    exact h2 hj
theorem m_cutX {p m n b : Nat} {q : rz_Q} (hv : v 21 = Int32.ofNat n) (hn : n ≤ 24) (hir : rz_ir R n p m) (hb : b ≤ 1) (hbm : b ≤ m) (hpr : rz_pr a R n) (hl : rz_lgs R n) (hli : rz_li a 24) (hq : b ≠ 0 → rz_rw a 24 q ∧ q.1 ≤ 9) : rz_C xs xl 102 [.ref 25, .int (Int32.ofNat p), .int (Int32.ofNat m), .int (Int32.ofNat b)] (rz_w v a g) (fun r w' => r = .inl none ∧ ∃ v' a', w' = rz_w v' a' g ∧ rz_mf v a v' a' ∧ v' 21 = Int32.ofNat (n - (m - b)) ∧ rz_pr a' (rz_cu R p m b q) (n - (m - b)) ∧ a' 24 = a 24 ∧ a' 25 = a 25 ∧ rz_li a' 24 ∧ v' 24 = v 24 + 1 ∧ v' 25 = v 25 + (if b = 0 then 1 else 0) ∧ ∀ j, j ≠ 21 → j ≠ 24 → j ≠ 25 → v' j = v j) := by
  have hpm := hir.1
  have hq2 : b ≠ 0 → rz_lg q ∧ q.1 ≤ 9 := fun h => ⟨(hq h).1.1, (hq h).2⟩
  refine ev_ps 4 rfl (ev_l (L2 := [some (.ref 25), some (.int (Int32.ofNat p)), some (.int (Int32.ofNat m)), some (.int (Int32.ofNat b)), some (.int (Int32.ofNat (m - b))), none]) (by rw [← rz_sub hbm]; rfl) ?_)
  -- the second loop, and the end
  have two : ∀ a1 : Nat → Nat → Int32, (rz_mf v a v a1 ∧ a1 24 = a 24 ∧ a1 25 = a 25 ∧ rz_li a1 24) → (∀ k, k < n - (m - b) → rz_ro a1 k (rz_sh R p m b q k)) → ∀ l5, rz_E xs xl 102 112 [some (.ref 25), some (.int (Int32.ofNat p)), some (.int (Int32.ofNat m)), some (.int (Int32.ofNat b)), some (.int (Int32.ofNat (m - b))), l5] [] (rz_w v a1 g) 0 0 (fun r w' => r = .inl none ∧ ∃ v' a', w' = rz_w v' a' g ∧ rz_mf v a v' a' ∧ v' 21 = Int32.ofNat (n - (m - b)) ∧ rz_pr a' (rz_cu R p m b q) (n - (m - b)) ∧ a' 24 = a 24 ∧ a' 25 = a 25 ∧ rz_li a' 24 ∧ v' 24 = v 24 + 1 ∧ v' 25 = v 25 + (if b = 0 then 1 else 0) ∧ ∀ j, j ≠ 21 → j ≠ 24 → j ≠ 25 → v' j = v j) := by
    rintro a1 ⟨hf1, g1, g2, g3⟩ hr1 l5
    refine ev_ps 6 rfl (ev_w (w2 := rz_w (rz_up v 21 (Int32.ofNat (n - (m - b)))) a1 g) (by rw [← rz_sub (k := n) (n := m - b) (by omega), ← hv]; rfl) ?_)
    refine ev_ps 2 rfl ?_
    refine ev_loop (α := Nat × (Nat → Nat → Int32)) (fun r => n - (m - b) - r.1) (fun r => r.1 ≤ n - (m - b) ∧ (rz_mf v a v r.2 ∧ r.2 24 = a 24 ∧ r.2 25 = a 25 ∧ rz_li r.2 24) ∧ (∀ k, k < r.1 → rz_ro r.2 k (rz_cu R p m b q k)) ∧ (∀ k, r.1 ≤ k → k < n - (m - b) → rz_ro r.2 k (rz_sh R p m b q k))) (fun r => [some (.ref 25), some (.int (Int32.ofNat p)), some (.int (Int32.ofNat m)), some (.int (Int32.ofNat b)), some (.int (Int32.ofNat (m - b))), some (.int (Int32.ofNat r.1))]) (fun _ => []) (fun r => rz_w (rz_up v 21 (Int32.ofNat (n - (m - b)))) r.2 g) ?_ (0, a1) ⟨Nat.zero_le _, ⟨hf1, g1, g2, g3⟩, fun k hk => absurd hk (Nat.not_lt_zero _), fun k _ hk => hr1 k hk⟩
    rintro ⟨k, a2⟩ ⟨hk, ⟨hf, g1, g2, g3⟩, hdone, htodo⟩ ih
    dsimp only at hk hf g1 g2 g3 hdone htodo ih ⊢
    refine ev_ps 3 rfl (ev_ic (cd := .ge) rfl (fun h => ?_) (fun h => ?_))
    · have hkk : n - (m - b) ≤ k := rn_ge_t (by omega) (by omega) h
      refine ev_ps 6 rfl (ev_w (w2 := rz_w (rz_up (rz_up v 21 (Int32.ofNat (n - (m - b)))) 24 (v 24 + 1)) a2 g) rfl ?_)
      have fin : ∀ y : Int32, y = (if b = 0 then 1 else 0) → rz_E xs xl 102 212 [some (.ref 25), some (.int (Int32.ofNat p)), some (.int (Int32.ofNat m)), some (.int (Int32.ofNat b)), some (.int (Int32.ofNat (m - b))), some (.int (Int32.ofNat k))] [.int y, .int (v 25), .ref 25] (rz_w (rz_up (rz_up v 21 (Int32.ofNat (n - (m - b)))) 24 (v 24 + 1)) a2 g) 0 0 (fun r w' => r = .inl none ∧ ∃ v' a', w' = rz_w v' a' g ∧ rz_mf v a v' a' ∧ v' 21 = Int32.ofNat (n - (m - b)) ∧ rz_pr a' (rz_cu R p m b q) (n - (m - b)) ∧ a' 24 = a 24 ∧ a' 25 = a 25 ∧ rz_li a' 24 ∧ v' 24 = v 24 + 1 ∧ v' 25 = v 25 + (if b = 0 then 1 else 0) ∧ ∀ j, j ≠ 21 → j ≠ 24 → j ≠ 25 → v' j = v j) := fun y hy => by
        refine ev_ps 2 rfl (ev_w (w2 := rz_w (rz_up (rz_up (rz_up v 21 (Int32.ofNat (n - (m - b)))) 24 (v 24 + 1)) 25 (v 25 + y)) a2 g) rfl ?_)
        exact ev_ret rfl rfl ⟨rfl, _, _, rfl, ((hf.up (by omega) _).up (by omega) _).up (by omega) _, rfl, fun j hj => hdone j (by omega), g1, g2, g3, rfl, by rw [← hy]; rfl, fun j h1 h2 h3 => by simp only [rz_up, h1, h2, h3, if_false]⟩
      refine ev_ps 4 rfl (ev_if (cd := .ne) rfl (fun h => ?_) (fun h => ?_))
      · exact ev_ps 1 rfl (fin 0 (by rw [if_neg (fun q => rc_ne_t h (by rw [q]; rfl))]))
      · have hb0 : b = 0 := (rz_eq_iff (k := 0) (by omega) (by omega)).mp (rc_ne_f h)
        exact ev_ps 2 rfl (fin 1 (by rw [if_pos hb0]))
    · have hkk : k < n - (m - b) := rn_ge_f (by omega) (by omega) h
      have hin : ¬ (Int32.ofNat k < 0 ∨ 25 ≤ (Int32.ofNat k).toNatClampNeg) := rz_in (by omega) (by decide)
      have e := rz_clamp (k := k) (by omega)
      obtain ⟨e1, e2, e3, e4⟩ := htodo k (Nat.le_refl _) hkk
      obtain ⟨⟨b1, b2, b3, b4, b5⟩, hgo⟩ := rz_sh_ok hl hir hbm hq2 hkk
      have next : ∀ a3 : Nat → Nat → Int32, (rz_mf v a v a3 ∧ a3 24 = a 24 ∧ a3 25 = a 25 ∧ rz_li a3 24) → (∀ j, j < k + 1 → rz_ro a3 j (rz_cu R p m b q j)) → (∀ j, k + 1 ≤ j → j < n - (m - b) → rz_ro a3 j (rz_sh R p m b q j)) → rz_E xs xl 102 182 [some (.ref 25), some (.int (Int32.ofNat p)), some (.int (Int32.ofNat m)), some (.int (Int32.ofNat b)), some (.int (Int32.ofNat (m - b))), some (.int (Int32.ofNat k))] [] (rz_w (rz_up v 21 (Int32.ofNat (n - (m - b)))) a3 g) 0 0 (fun r w' => r = .inl none ∧ ∃ v' a', w' = rz_w v' a' g ∧ rz_mf v a v' a' ∧ v' 21 = Int32.ofNat (n - (m - b)) ∧ rz_pr a' (rz_cu R p m b q) (n - (m - b)) ∧ a' 24 = a 24 ∧ a' 25 = a 25 ∧ rz_li a' 24 ∧ v' 24 = v 24 + 1 ∧ v' 25 = v 25 + (if b = 0 then 1 else 0) ∧ ∀ j, j ≠ 21 → j ≠ 24 → j ≠ 25 → v' j = v j) := by
        intro a3 hkeep hd ht
        have h9 := ih (k + 1, a3) ⟨by show k + 1 ≤ _; omega, hkeep, hd, ht⟩ (by show n - (m - b) - (k + 1) < n - (m - b) - k; omega)
        dsimp only at h9
        rw [← rz_succ k] at h9
        exact ev_ps 2 rfl h9
      have same : ¬ (12 ≤ (rz_sh R p m b q k).1 ∧ (rz_sh R p m b q k).1 ≤ 14 ∧ p < (rz_sh R p m b q k).2.2.2) → rz_E xs xl 102 182 [some (.ref 25), some (.int (Int32.ofNat p)), some (.int (Int32.ofNat m)), some (.int (Int32.ofNat b)), some (.int (Int32.ofNat (m - b))), some (.int (Int32.ofNat k))] [] (rz_w (rz_up v 21 (Int32.ofNat (n - (m - b)))) a2 g) 0 0 (fun r w' => r = .inl none ∧ ∃ v' a', w' = rz_w v' a' g ∧ rz_mf v a v' a' ∧ v' 21 = Int32.ofNat (n - (m - b)) ∧ rz_pr a' (rz_cu R p m b q) (n - (m - b)) ∧ a' 24 = a 24 ∧ a' 25 = a 25 ∧ rz_li a' 24 ∧ v' 24 = v 24 + 1 ∧ v' 25 = v 25 + (if b = 0 then 1 else 0) ∧ ∀ j, j ≠ 21 → j ≠ 24 → j ≠ 25 → v' j = v j) := fun hno => next a2 ⟨hf, g1, g2, g3⟩ (fun j hj => by
        by_cases hjk : j = k
        · have ecu : rz_cu R p m b q k = rz_sh R p m b q k := by unfold rz_cu rz_mv; rw [if_neg hno]
          rw [hjk, ecu]; exact ⟨e1, e2, e3, e4⟩
        · exact hdone j (by omega)) (fun j h1 h2 => htodo j (by omega) h2)
      refine ev_ps 3 rfl (ev_ald rfl rfl hin ?_)
      rw [e, e1]
      refine ev_ps 1 rfl (ev_ic (cd := .lt) rfl (fun h1 => ?_) (fun h1 => ?_))
      · have h2 := rn_lt_t (k := 12) (by omega) (by omega) h1
        exact same (fun q => absurd q.1 (by omega))
      have h12 := rn_lt_f (k := 12) (by omega) (by omega) h1
      refine ev_ps 3 rfl (ev_ald rfl rfl hin ?_)
      rw [e, e1]
      refine ev_ps 1 rfl (ev_ic (cd := .gt) rfl (fun h2 => ?_) (fun h2 => ?_))
      · have h3 := rn_gt_t (k := 14) (by omega) (by omega) h2
        exact same (fun q => absurd q.2.1 (by omega))
      have h14 := rn_gt_f (k := 14) (by omega) (by omega) h2
      refine ev_ps 3 rfl (ev_ald rfl rfl hin ?_)
      rw [e, e4]
      refine ev_ps 1 rfl (ev_ic (cd := .le) rfl (fun h3 => ?_) (fun h3 => ?_))
      · have h4 := rn_le_t (by omega) (by omega) h3
        exact same (fun q => absurd q.2.2 (by omega))
      have hgt := rn_le_f (by omega) (by omega) h3
      have hfar := hgo h12 h14 hgt
      refine ev_ps 4 rfl (ev_ald rfl rfl hin ?_)
      rw [e, e4]
      refine ev_ps 2 rfl (ev_ast rfl rfl hin ?_)
      rw [e]
      refine ev_w (w2 := rz_w (rz_up v 21 (Int32.ofNat (n - (m - b)))) (rz_ua a2 23 (upd (a2 23) k (Int32.ofNat ((rz_sh R p m b q k).2.2.2 - (m - b))))) g) (by rw [← rz_sub (k := (rz_sh R p m b q k).2.2.2) (n := m - b) (by omega)]; rfl) ?_
      refine next _ ⟨hf.ua (by omega) _, g1, g2, ?_⟩ (fun j hj => ?_) (fun j h1 h2 => ?_)
      · show rz_LI (a2 20 24) (a2 21 24) (a2 22 24) (upd (a2 23) k _ 24)
        simp only [upd]
        rw [if_neg (by omega)]
        exact g3
      · show a2 20 j = _ ∧ a2 21 j = _ ∧ a2 22 j = _ ∧ upd (a2 23) k _ j = _
        by_cases hjk : j = k
        · have ecu : rz_cu R p m b q k = ((rz_sh R p m b q k).1, (rz_sh R p m b q k).2.1, (rz_sh R p m b q k).2.2.1, (rz_sh R p m b q k).2.2.2 - (m - b)) := by unfold rz_cu rz_mv; rw [if_pos ⟨h12, h14, hgt⟩]
          rw [hjk, ecu]
          exact ⟨e1, e2, e3, by simp [upd]⟩
        · simp only [upd, hjk, if_false]
          exact hdone j (by omega)
      · show a2 20 j = _ ∧ a2 21 j = _ ∧ a2 22 j = _ ∧ upd (a2 23) k _ j = _
        simp only [upd]
        rw [if_neg (by omega)]
        exact htodo j (by omega) h2
  -- the first loop
  have one : ∀ a1 : Nat → Nat → Int32, (rz_mf v a v a1 ∧ a1 24 = a 24 ∧ a1 25 = a 25 ∧ rz_li a1 24) → (∀ k, k < p + b → rz_ro a1 k (rz_sh R p m b q k)) → (∀ k, p + b ≤ k → k < n → rz_ro a1 k (R k)) → rz_E xs xl 102 43 [some (.ref 25), some (.int (Int32.ofNat p)), some (.int (Int32.ofNat m)), some (.int (Int32.ofNat b)), some (.int (Int32.ofNat (m - b))), none] [] (rz_w v a1 g) 0 0 (fun r w' => r = .inl none ∧ ∃ v' a', w' = rz_w v' a' g ∧ rz_mf v a v' a' ∧ v' 21 = Int32.ofNat (n - (m - b)) ∧ rz_pr a' (rz_cu R p m b q) (n - (m - b)) ∧ a' 24 = a 24 ∧ a' 25 = a 25 ∧ rz_li a' 24 ∧ v' 24 = v 24 + 1 ∧ v' 25 = v 25 + (if b = 0 then 1 else 0) ∧ ∀ j, j ≠ 21 → j ≠ 24 → j ≠ 25 → v' j = v j) := by
    intro a1 hkeep hlow hhigh
    refine ev_ps 4 rfl (ev_l (L2 := [some (.ref 25), some (.int (Int32.ofNat p)), some (.int (Int32.ofNat m)), some (.int (Int32.ofNat b)), some (.int (Int32.ofNat (m - b))), some (.int (Int32.ofNat (p + b)))]) (by rw [← rz_add]; rfl) ?_)
    refine ev_loop (α := Nat × (Nat → Nat → Int32)) (fun r => n - r.1) (fun r => p + b ≤ r.1 ∧ r.1 + (m - b) ≤ n ∧ (rz_mf v a v r.2 ∧ r.2 24 = a 24 ∧ r.2 25 = a 25 ∧ rz_li r.2 24) ∧ (∀ k, k < r.1 → rz_ro r.2 k (rz_sh R p m b q k)) ∧ (∀ k, r.1 ≤ k → k < n → rz_ro r.2 k (R k))) (fun r => [some (.ref 25), some (.int (Int32.ofNat p)), some (.int (Int32.ofNat m)), some (.int (Int32.ofNat b)), some (.int (Int32.ofNat (m - b))), some (.int (Int32.ofNat r.1))]) (fun _ => []) (fun r => rz_w v r.2 g) ?_ (p + b, a1) ⟨Nat.le_refl _, by show p + b + (m - b) ≤ n; omega, hkeep, hlow, hhigh⟩
    rintro ⟨k, a2⟩ ⟨hpk, hk, hkeep, hlow, hhigh⟩ ih
    dsimp only at hpk hk hkeep hlow hhigh ih ⊢
    refine ev_ps 5 rfl (ev_ic (cd := .ge) rfl (fun h => ?_) (fun h => ?_))
    · rw [rz_add, hv] at h
      have hkk : n ≤ k + (m - b) := rn_ge_t (by omega) (by omega) h
      exact two a2 hkeep (fun j hj => hlow j (by omega)) _
    rw [rz_add, hv] at h
    have hkk : k + (m - b) < n := rn_ge_f (by omega) (by omega) h
    have hin : ¬ (Int32.ofNat k + Int32.ofNat (m - b) < 0 ∨ 25 ≤ (Int32.ofNat k + Int32.ofNat (m - b)).toNatClampNeg) := by rw [rz_add]; exact rz_in (by omega) (by decide)
    refine ev_ps 7 rfl (ev_ald rfl rfl hin ?_)
    refine ev_ps 5 rfl (ev_ald rfl rfl hin ?_)
    refine ev_ps 5 rfl (ev_ald rfl rfl hin ?_)
    refine ev_ps 5 rfl (ev_ald rfl rfl hin ?_)
    refine ev_call (av := [.ref 25, .int (Int32.ofNat k), .int (a2 20 (k + (m - b))), .int (a2 21 (k + (m - b))), .int (a2 22 (k + (m - b))), .int (a2 23 (k + (m - b)))]) rfl (by rw [rz_add, rz_clamp (by omega)]; rfl) rfl rfl ⟨Nat.le_of_ble_eq_true rfl, rfl⟩ ⟨Nat.le_of_ble_eq_true rfl, Nat.le_of_ble_eq_true rfl⟩ (m_put (k := k) (by omega) _ _ _ _) ?_
    rintro _ _ ⟨rfl, rfl⟩
    obtain ⟨hf, g1, g2, g3⟩ := hkeep
    have esh : rz_sh R p m b q k = R (k + (m - b)) := by unfold rz_sh; rw [if_neg (by omega), if_neg (by omega)]
    have h9 := ih (k + 1, rz_pt a2 k (a2 20 (k + (m - b))) (a2 21 (k + (m - b))) (a2 22 (k + (m - b))) (a2 23 (k + (m - b)))) ⟨by show p + b ≤ k + 1; omega, by show k + 1 + (m - b) ≤ n; omega, ⟨rz_pt_mf hf, g1, g2, rz_pt_li (fun q => absurd q (by omega)) (fun _ => g3)⟩, fun j hj => rz_pt_ro (fun hjk => by rw [hjk, esh]; exact hhigh (k + (m - b)) (by omega) hkk) (fun hjk => hlow j (by have : j < k + 1 := hj; omega)), fun j h1 h2 => rz_pt_ro (fun hjk => absurd (show k + 1 ≤ j from h1) (by omega)) (fun _ => hhigh j (by have : k + 1 ≤ j := h1; omega) h2)⟩ (by show n - (k + 1) < n - k; omega)
    dsimp only at h9
    rw [← rz_succ k] at h9
    exact ev_ps 2 rfl h9
  have shl : ∀ k, k < p → rz_sh R p m b q k = R k := fun k hk => by unfold rz_sh; rw [if_pos hk]
  refine ev_ps 2 rfl (ev_ic (cd := .ne) rfl (fun h => ?_) (fun h => ?_))
  · have hb1 : ¬ b = 1 := fun q => rc_ne_t h (by rw [q]; rfl)
    exact one a ⟨rz_mf.rf, rfl, rfl, hli⟩ (fun k hk => by rw [shl k (by omega)]; exact hpr k (by omega)) (fun k _ h2 => hpr k h2)
  have eb : b = 1 := (rz_eq_iff (k := 1) (by omega) (by omega)).mp (rc_ne_f h)
  have hin : ¬ ((24 : Int32) < 0 ∨ 25 ≤ (24 : Int32).toNatClampNeg) := by decide
  refine ev_ps 5 rfl (ev_ald rfl rfl hin ?_)
  refine ev_ps 3 rfl (ev_ald rfl rfl hin ?_)
  refine ev_ps 3 rfl (ev_ald rfl rfl hin ?_)
  refine ev_ps 3 rfl (ev_ald rfl rfl hin ?_)
  refine ev_call (av := [.ref 25, .int (Int32.ofNat p), .int (a 20 24), .int (a 21 24), .int (a 22 24), .int (a 23 24)]) rfl rfl rfl rfl ⟨Nat.le_of_ble_eq_true rfl, rfl⟩ ⟨Nat.le_of_ble_eq_true rfl, Nat.le_of_ble_eq_true rfl⟩ (m_put (k := p) (by omega) _ _ _ _) ?_
  rintro _ _ ⟨rfl, rfl⟩
  refine one _ ⟨rz_pt_mf rz_mf.rf, rfl, rfl, rz_pt_li (fun q => absurd q (by omega)) (fun _ => hli)⟩ (fun k hk => rz_pt_ro (fun hkp => ?_) (fun hkp => ?_)) (fun k h1 h2 => rz_pt_ro (fun hkp => absurd h1 (by omega)) (fun _ => hpr k h2))
  · have esh : rz_sh R p m b q k = q := by unfold rz_sh; rw [if_neg (by omega), if_pos (by omega)]
    rw [esh]
    exact (hq (by omega)).1.2
  · rw [shl k (by omega)]; exact hpr k (by omega)
end RZX3
