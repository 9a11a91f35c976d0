/-! the law's loop -/
section RZLAW
variable {xs : Nat → Int32} {xl pc : Nat} {L : rz_L} {st : List Value} {w : rz_W} {kc ks : Nat} {post : rz_R → rz_W → Prop}
theorem ev_sld {len x y z : Nat} {j : Int32} (hc : rz_code 0 pc = some (4, .iaload, len, x, y, z)) (hj : ¬ (j < 0 ∨ xl ≤ j.toNatClampNeg)) (k : rz_E xs xl 0 (pc + len) L (.int (xs j.toNatClampNeg) :: st) w kc ks post) : rz_E xs xl 0 pc L (.int j :: .ref 999 :: st) w kc ks post := by
  obtain ⟨n, r, w1, h1, h2⟩ := k
  refine ⟨n + 1, r, w1, ?_, h2⟩
  rw [rz_run, hc]
  exact (if_pos rfl).trans ((if_pos hj).trans h1)
theorem ev_sln {len x y z : Nat} (hc : rz_code 0 pc = some (4, .arraylength, len, x, y, z)) (k : rz_E xs xl 0 (pc + len) L (.int (Int32.ofNat xl) :: st) w kc ks post) : rz_E xs xl 0 pc L (.ref 999 :: st) w kc ks post := by
  obtain ⟨n, r, w1, h1, h2⟩ := k
  refine ⟨n + 1, r, w1, ?_, h2⟩
  rw [rz_run, hc]
  exact (if_pos rfl).trans h1
theorem rz_lgc {x : Int64} {y z : Int32} (h : x = y.toInt64) (h2 : z = y) : lg_cmp x z.toInt64 = 0 := by
  rw [h, h2]
  simp [lg_cmp]
end RZLAW
set_option maxRecDepth 50000 in
theorem rz_law {xs : Nat → Int32} {xl c0 s0' : Nat} (hxl : xl ≤ 3072) (hc0 : c0 + 512 ≤ 1074) (hs0 : s0' + 3072 ≤ 8598) : ∀ (d k : Nat), k + d = 600 → k ≤ 512 → ∀ (v : Nat → Int32) (a : Nat → Nat → Int32) (g : Nat → Int64) (l5 l6 : Option Value) (kc ks : Nat) (R : Nat → rz_Q) (n r b l : Nat) (S T : Nat → Int32) (P : Nat) (E : Int32), rz_CC v a R n r b l → rz_RR v a R n r b l → rz_CM v a S T P E → rz_RM v a S T P E → kc ≤ c0 + k → ks ≤ s0' + 6 * k →
    rz_E xs xl 0 23 [some (.ref 999), some (.ref 0), some (.ref 25), some (.ref 35), some (.int (Int32.ofNat (6 * k))), l5, l6] [] (rz_w v a g) kc ks (fun r _ => r = .inl (some (.int 1))) := by
  intro d
  induction d with
  | zero => intro k h1 h2; omega
  | succ d ih =>
    intro k hkd hk v a g l5 l6 kc ks R n r b l S T P E hC hR hM hN hkc hks
    refine ev_ps 2 rfl (ev_sln rfl ?_)
    refine ev_ps 2 rfl (ev_ic (cd := .gt) rfl (fun h => ?_) (fun h => ?_))
    · exact ev_ps 1 rfl (ev_ret rfl rfl rfl)
    · have hle : 6 * k + 6 ≤ xl := by
        have h' := rc_gt_f h
        by_cases h6 : 6 ≤ xl
        · rw [show Int32.ofNat xl - (Int8.ofInt 6).toInt32 = Int32.ofNat (xl - 6) from rz_sub (n := 6) h6, rz_lt_iff (by omega) (by omega)] at h'
          omega
        · exfalso
          apply h'
          have hx : xl = 0 ∨ xl = 1 ∨ xl = 2 ∨ xl = 3 ∨ xl = 4 ∨ xl = 5 := by omega
          have hneg : Int32.ofNat xl - (Int8.ofInt 6).toInt32 < 0 := by rcases hx with rfl | rfl | rfl | rfl | rfl | rfl <;> decide
          rw [Int32.lt_iff_toInt_lt] at hneg ⊢
          rw [rz_toInt (by omega)]
          have h0 : (0 : Int32).toInt = 0 := rfl
          omega
      have hk5 : k ≤ 511 := by omega
      have s0 : ¬ (Int32.ofNat (6 * k) < 0 ∨ xl ≤ (Int32.ofNat (6 * k)).toNatClampNeg) := rz_in (by omega) (by omega)
      have s1 : ¬ (Int32.ofNat (6 * k) + Int32.ofInt 1 < 0 ∨ xl ≤ (Int32.ofNat (6 * k) + Int32.ofInt 1).toNatClampNeg) := by
        rw [show Int32.ofNat (6 * k) + Int32.ofInt 1 = Int32.ofNat (6 * k + 1) from rz_add _ _]
        exact rz_in (by omega) (by omega)
      have s2 : ¬ (Int32.ofNat (6 * k) + Int32.ofInt 2 < 0 ∨ xl ≤ (Int32.ofNat (6 * k) + Int32.ofInt 2).toNatClampNeg) := by
        rw [show Int32.ofNat (6 * k) + Int32.ofInt 2 = Int32.ofNat (6 * k + 2) from rz_add _ _]
        exact rz_in (by omega) (by omega)
      have s3 : ¬ (Int32.ofNat (6 * k) + Int32.ofInt 3 < 0 ∨ xl ≤ (Int32.ofNat (6 * k) + Int32.ofInt 3).toNatClampNeg) := by
        rw [show Int32.ofNat (6 * k) + Int32.ofInt 3 = Int32.ofNat (6 * k + 3) from rz_add _ _]
        exact rz_in (by omega) (by omega)
      have s4 : ¬ (Int32.ofNat (6 * k) + Int32.ofInt 4 < 0 ∨ xl ≤ (Int32.ofNat (6 * k) + Int32.ofInt 4).toNatClampNeg) := by
        rw [show Int32.ofNat (6 * k) + Int32.ofInt 4 = Int32.ofNat (6 * k + 4) from rz_add _ _]
        exact rz_in (by omega) (by omega)
      have s5 : ¬ (Int32.ofNat (6 * k) + Int32.ofInt 5 < 0 ∨ xl ≤ (Int32.ofNat (6 * k) + Int32.ofInt 5).toNatClampNeg) := by
        rw [show Int32.ofNat (6 * k) + Int32.ofInt 5 = Int32.ofNat (6 * k + 5) from rz_add _ _]
        exact rz_in (by omega) (by omega)
      have nx : ∀ (l5 l6 : Option Value) (v2 : Nat → Int32) (a2 : Nat → Nat → Int32) (g2 : Nat → Int64) (kc2 ks2 : Nat) (R2 : Nat → rz_Q) (n2 r2 b2 l2 : Nat) (S2 T2 : Nat → Int32) (P2 : Nat) (E2 : Int32), rz_CC v2 a2 R2 n2 r2 b2 l2 → rz_RR v2 a2 R2 n2 r2 b2 l2 → rz_CM v2 a2 S2 T2 P2 E2 → rz_RM v2 a2 S2 T2 P2 E2 → kc2 ≤ c0 + (k + 1) → ks2 ≤ s0' + 6 * (k + 1) → rz_E xs xl 0 599 [some (.ref 999), some (.ref 0), some (.ref 25), some (.ref 35), some (.int (Int32.ofNat (6 * k))), l5, l6] [] (rz_w v2 a2 g2) kc2 ks2 (fun r _ => r = .inl (some (.int 1))) := by
        intro l5 l6 v2 a2 g2 kc2 ks2 R2 n2 r2 b2 l2 S2 T2 P2 E2 h1 h2 h3 h4 h5 h6
        have h9 := ih (k + 1) (by omega) (by omega) v2 a2 g2 l5 l6 kc2 ks2 R2 n2 r2 b2 l2 S2 T2 P2 E2 h1 h2 h3 h4 h5 h6
        rw [show Int32.ofNat (6 * (k + 1)) = Int32.ofNat (6 * k) + Int32.ofInt 6 from (rz_add (6 * k) 6).symm] at h9
        exact ev_ps 2 rfl h9
      refine ev_ps 2 rfl (ev_sld rfl s0 ?_)
      refine ev_ps 2 rfl (ev_tsw rfl (fun t ht => ?_))
      rcases rz_mem14 ht with rfl | rfl | rfl | rfl | rfl | rfl | rfl | rfl | rfl | rfl | rfl | rfl | rfl | rfl
      · exact nx _ _ _ _ _ _ _ _ _ _ _ _ _ _ _ _ hC hR hM hN (by omega) (by omega)
      · refine ev_ps 5 rfl ?_
        refine ev_sld rfl s1 ?_
        refine ev_ps 4 rfl ?_
        refine ev_sld rfl s2 ?_
        refine ev_ps 4 rfl ?_
        refine ev_sld rfl s3 ?_
        refine ev_ps 4 rfl ?_
        refine ev_sld rfl s4 ?_
        refine ev_ps 1 rfl ?_
        refine ev_call (av := [_, _, _, _, _, _]) rfl rfl rfl rfl ⟨Nat.le_of_ble_eq_true rfl, rfl⟩ ⟨by show kc + 1 ≤ 1074; omega, by show ks + 6 ≤ 8598; omega⟩ (l_addX hC _ _ _ _) ?_
        rintro _ _ ⟨v1, a1, g1, ⟨rfl, hg1, hk1⟩, rfl, hf1, hC1⟩
        have hR1 := rz_RR_cf hf1 hR
        have hM1 := hM.kc hk1
        have hN1 := hN.cf hf1
        refine ev_ps 6 rfl ?_
        refine ev_sld rfl s1 ?_
        refine ev_ps 4 rfl ?_
        refine ev_sld rfl s2 ?_
        refine ev_ps 4 rfl ?_
        refine ev_sld rfl s3 ?_
        refine ev_ps 4 rfl ?_
        refine ev_sld rfl s4 ?_
        refine ev_call (av := [_, _, _, _, _]) rfl rfl rfl rfl ⟨Nat.le_of_ble_eq_true rfl, rfl⟩ ⟨by show kc + 1 + 0 ≤ 1074; omega, by show ks + 6 + 0 ≤ 8598; omega⟩ (m_addX hR1 _ _ _ _) ?_
        rintro _ _ ⟨v2, a2, rfl, ⟨rfl, h20, hk2⟩, hf2, hR2⟩
        have hC2 := rz_CC_mf hf2 hC1
        have hN2 := hN1.ks hk2
        have hM2 := hM1.mf hf2
        exact ev_ps 2 rfl (nx _ _ _ _ _ _ _ _ _ _ _ _ _ _ _ _ hC2 hR2 hM2 hN2 (by show kc + 1 + 0 ≤ c0 + (k + 1); omega) (by show ks + 6 + 0 ≤ s0' + 6 * (k + 1); omega))
      · refine ev_ps 5 rfl ?_
        refine ev_sld rfl s1 ?_
        refine ev_ps 4 rfl ?_
        refine ev_sld rfl s2 ?_
        refine ev_ps 4 rfl ?_
        refine ev_sld rfl s3 ?_
        refine ev_ps 4 rfl ?_
        refine ev_sld rfl s4 ?_
        refine ev_ps 4 rfl ?_
        refine ev_sld rfl s5 ?_
        refine ev_call (av := [_, _, _, _, _, _]) rfl rfl rfl rfl ⟨Nat.le_of_ble_eq_true rfl, rfl⟩ ⟨by show kc + 1 ≤ 1074; omega, by show ks + 6 ≤ 8598; omega⟩ (l_replaceX hC _ _ _ _ _) ?_
        rintro _ _ ⟨v1, a1, g1, ⟨rfl, hk1⟩, rfl, hf1, hC1⟩
        have hR1 := rz_RR_cf hf1 hR
        have hM1 := hM.kc hk1
        have hN1 := hN.cf hf1
        refine ev_ps 6 rfl ?_
        refine ev_sld rfl s1 ?_
        refine ev_ps 4 rfl ?_
        refine ev_sld rfl s2 ?_
        refine ev_ps 4 rfl ?_
        refine ev_sld rfl s3 ?_
        refine ev_ps 4 rfl ?_
        refine ev_sld rfl s4 ?_
        refine ev_ps 4 rfl ?_
        refine ev_sld rfl s5 ?_
        refine ev_call (av := [_, _, _, _, _, _]) rfl rfl rfl rfl ⟨Nat.le_of_ble_eq_true rfl, rfl⟩ ⟨by show kc + 1 + 0 ≤ 1074; omega, by show ks + 6 + 0 ≤ 8598; omega⟩ (m_replaceX hR1 _ _ _ _ _) ?_
        rintro _ _ ⟨v2, a2, rfl, ⟨rfl, h20, hk2⟩, hf2, hR2⟩
        have hC2 := rz_CC_mf hf2 hC1
        have hN2 := hN1.ks hk2
        have hM2 := hM1.mf hf2
        exact ev_ps 1 rfl (nx _ _ _ _ _ _ _ _ _ _ _ _ _ _ _ _ hC2 hR2 hM2 hN2 (by show kc + 1 + 0 ≤ c0 + (k + 1); omega) (by show ks + 6 + 0 ≤ s0' + 6 * (k + 1); omega))
      · refine ev_ps 1 rfl ?_
        refine ev_call (av := [_]) rfl rfl rfl rfl ⟨Nat.le_of_ble_eq_true rfl, rfl⟩ ⟨by show kc + 0 ≤ 1074; omega, by show ks + 0 ≤ 8598; omega⟩ (p_clearX hC) ?_
        rintro _ _ ⟨v1, a1, g1, ⟨rfl, hk1⟩, rfl, hf1, hC1⟩
        have hR1 := rz_RR_cf hf1 hR
        have hM1 := hM.kc hk1
        have hN1 := hN.cf hf1
        refine ev_ps 2 rfl ?_
        refine ev_call (av := [_]) rfl rfl rfl rfl ⟨Nat.le_of_ble_eq_true rfl, rfl⟩ ⟨by show kc + 0 + 0 ≤ 1074; omega, by show ks + 0 + 0 ≤ 8598; omega⟩ (m_clearX hR1) ?_
        rintro _ _ ⟨v2, a2, rfl, ⟨rfl, hk2⟩, hf2, hR2⟩
        have hC2 := rz_CC_mf hf2 hC1
        have hN2 := hN1.ks hk2
        have hM2 := hM1.mf hf2
        exact ev_ps 2 rfl (nx _ _ _ _ _ _ _ _ _ _ _ _ _ _ _ _ hC2 hR2 hM2 hN2 (by show kc + 0 + 0 ≤ c0 + (k + 1); omega) (by show ks + 0 + 0 ≤ s0' + 6 * (k + 1); omega))
      · refine ev_ps 1 rfl ?_
        refine ev_call (av := [_]) rfl rfl rfl rfl ⟨Nat.le_of_ble_eq_true rfl, rfl⟩ ⟨by show kc + 0 ≤ 1074; omega, by show ks + 0 ≤ 8598; omega⟩ (p_sizeX hC) ?_
        rintro _ _ ⟨v1, a1, g1, ⟨rfl, hk1⟩, rfl, hf1, hC1⟩
        have hR1 := rz_RR_cf hf1 hR
        have hM1 := hM.kc hk1
        have hN1 := hN.cf hf1
        refine ev_ps 2 rfl ?_
        refine ev_call (av := [_]) rfl rfl rfl rfl ⟨Nat.le_of_ble_eq_true rfl, rfl⟩ ⟨by show kc + 0 + 0 ≤ 1074; omega, by show ks + 0 + 0 ≤ 8598; omega⟩ (m_sizeX hR1) ?_
        rintro _ _ ⟨v2, a2, rfl, ⟨rfl, hk2⟩, hf2, hR2⟩
        have hC2 := rz_CC_mf hf2 hC1
        have hN2 := hN1.ks hk2
        have hM2 := hM1.mf hf2
        exact ev_ps 2 rfl (nx _ _ _ _ _ _ _ _ _ _ _ _ _ _ _ _ hC2 hR2 hM2 hN2 (by show kc + 0 + 0 ≤ c0 + (k + 1); omega) (by show ks + 0 + 0 ≤ s0' + 6 * (k + 1); omega))
      · refine ev_ps 5 rfl ?_
        refine ev_sld rfl s1 ?_
        refine ev_ps 4 rfl ?_
        refine ev_sld rfl s2 ?_
        refine ev_ps 1 rfl ?_
        refine ev_call (av := [_, _, _, _]) rfl rfl rfl rfl ⟨Nat.le_of_ble_eq_true rfl, rfl⟩ ⟨by show kc + 1 ≤ 1074; omega, by show ks + 6 ≤ 8598; omega⟩ (l_instructionX hC _ _) ?_
        rintro _ _ ⟨v1, a1, g1, ⟨rfl, hg1, hk1⟩, rfl, hf1, hC1⟩
        have hR1 := rz_RR_cf hf1 hR
        have hM1 := hM.kc hk1
        have hN1 := hN.cf hf1
        refine ev_ps 6 rfl ?_
        refine ev_sld rfl s1 ?_
        refine ev_ps 4 rfl ?_
        refine ev_sld rfl s2 ?_
        refine ev_call (av := [_, _, _]) rfl rfl rfl rfl ⟨Nat.le_of_ble_eq_true rfl, rfl⟩ ⟨by show kc + 1 + 0 ≤ 1074; omega, by show ks + 6 + 0 ≤ 8598; omega⟩ (m_instructionX hR1 _ _) ?_
        rintro _ _ ⟨v2, a2, rfl, ⟨rfl, h20, hk2⟩, hf2, hR2⟩
        have hC2 := rz_CC_mf hf2 hC1
        have hN2 := hN1.ks hk2
        have hM2 := hM1.mf hf2
        exact ev_ps 2 rfl (nx _ _ _ _ _ _ _ _ _ _ _ _ _ _ _ _ hC2 hR2 hM2 hN2 (by show kc + 1 + 0 ≤ c0 + (k + 1); omega) (by show ks + 6 + 0 ≤ s0' + 6 * (k + 1); omega))
      · refine ev_ps 5 rfl ?_
        refine ev_sld rfl s1 ?_
        refine ev_ps 4 rfl ?_
        refine ev_sld rfl s2 ?_
        refine ev_call (av := [_, _, _]) rfl rfl rfl rfl ⟨Nat.le_of_ble_eq_true rfl, rfl⟩ ⟨by show kc + 1 ≤ 1074; omega, by show ks + 6 ≤ 8598; omega⟩ (l_startY hC hM _ _) ?_
        rintro _ _ ⟨v1, a1, g1, ⟨⟨u1, rfl⟩, hM1⟩, rfl, hf1, hC1⟩
        have hR1 := rz_RR_cf hf1 hR
        have hN1 := hN.cf hf1
        refine ev_ps 6 rfl ?_
        refine ev_sld rfl s1 ?_
        refine ev_ps 4 rfl ?_
        refine ev_sld rfl s2 ?_
        refine ev_call (av := [_, _, _]) rfl rfl rfl rfl ⟨Nat.le_of_ble_eq_true rfl, rfl⟩ ⟨by show kc + 1 + 0 ≤ 1074; omega, by show ks + 6 + 0 ≤ 8598; omega⟩ (m_startY hR1 hN1 _ _) ?_
        rintro _ _ ⟨v2, a2, rfl, ⟨rfl, hN2⟩, hf2, hR2⟩
        have hC2 := rz_CC_mf hf2 hC1
        have hM2 := hM1.mf hf2
        exact ev_ps 1 rfl (nx _ _ _ _ _ _ _ _ _ _ _ _ _ _ _ _ hC2 hR2 hM2 hN2 (by show kc + 1 + 0 ≤ c0 + (k + 1); omega) (by show ks + 6 + 0 ≤ s0' + 6 * (k + 1); omega))
      · refine ev_ps 5 rfl ?_
        refine ev_sld rfl s1 ?_
        refine ev_ps 1 rfl ?_
        refine ev_call (av := [_, _, _]) rfl rfl rfl rfl ⟨Nat.le_of_ble_eq_true rfl, rfl⟩ ⟨by show kc + 1 ≤ 1074; omega, by show ks + 6 ≤ 8598; omega⟩ (l_runY hC hM _) ?_
        rintro _ _ ⟨v1, a1, g1, ⟨rfl, hg1, hM1⟩, rfl, hf1, hC1⟩
        have hR1 := rz_RR_cf hf1 hR
        have hN1 := hN.cf hf1
        refine ev_ps 6 rfl ?_
        refine ev_sld rfl s1 ?_
        refine ev_call (av := [_, _]) rfl rfl rfl rfl ⟨Nat.le_of_ble_eq_true rfl, rfl⟩ ⟨by show kc + 1 + 0 ≤ 1074; omega, by show ks + 6 + 0 ≤ 8598; omega⟩ (m_runY hR1 hN1 hM1.1.2.2 _) ?_
        rintro _ _ ⟨v2, a2, rfl, ⟨rfl, h20, hN2⟩, hf2, hR2⟩
        have hC2 := rz_CC_mf hf2 hC1
        have hM2 := hM1.mf hf2
        refine ev_ps 2 rfl ?_
        refine ev_call (av := [_]) rfl rfl rfl rfl ⟨Nat.le_of_ble_eq_true rfl, rfl⟩ ⟨by show kc + 1 + 0 + 0 ≤ 1074; omega, by show ks + 6 + 0 + 0 ≤ 8598; omega⟩ m_thrown ?_
        rintro _ _ ⟨rfl, rfl⟩
        refine ev_ps 1 rfl (ev_ic (cd := .eq) rfl (fun h => ?_) (fun h => absurd h20 (rc_eq_f h)))
        refine ev_ps 1 rfl (ev_if (cd := .ne) rfl (fun h => ev_ps 1 rfl (nx _ _ _ _ _ _ _ _ _ _ _ _ _ _ _ _ hC2 hR2 hM2 hN2 (by show kc + 1 + 0 + 0 ≤ c0 + (k + 1); omega) (by show ks + 6 + 0 + 0 ≤ s0' + 6 * (k + 1); omega))) (fun hk0 => ?_))
        have hkk := rc_ne_f hk0
        refine ev_ps 6 rfl (ev_if (cd := .eq) rfl (fun h => ev_ps 1 rfl (nx _ _ _ _ _ _ _ _ _ _ _ _ _ _ _ _ hC2 hR2 hM2 hN2 (by show kc + 1 + 0 + 0 ≤ c0 + (k + 1); omega) (by show ks + 6 + 0 + 0 ≤ s0' + 6 * (k + 1); omega))) (fun h => ?_))
        exact absurd (rz_lgc (hg1 hkk) (if_pos hkk)) (rc_eq_f h)
      · refine ev_ps 5 rfl ?_
        refine ev_sld rfl s1 ?_
        refine ev_call (av := [_, _]) rfl rfl rfl rfl ⟨Nat.le_of_ble_eq_true rfl, rfl⟩ ⟨by show kc + 0 ≤ 1074; omega, by show ks + 0 ≤ 8598; omega⟩ (p_resultY hC hM _) ?_
        rintro _ _ ⟨v1, a1, g1, ⟨rfl, hk1⟩, rfl, hf1, hC1⟩
        have hR1 := rz_RR_cf hf1 hR
        have hM1 := hM.kc hk1
        have hN1 := hN.cf hf1
        refine ev_ps 6 rfl ?_
        refine ev_sld rfl s1 ?_
        refine ev_call (av := [_, _]) rfl rfl rfl rfl ⟨Nat.le_of_ble_eq_true rfl, rfl⟩ ⟨by show kc + 0 + 0 ≤ 1074; omega, by show ks + 0 + 0 ≤ 8598; omega⟩ (m_resultY hR1 hN1 _) ?_
        rintro _ _ ⟨v2, a2, rfl, ⟨rfl, hk2⟩, hf2, hR2⟩
        have hC2 := rz_CC_mf hf2 hC1
        have hN2 := hN1.ks hk2
        have hM2 := hM1.mf hf2
        exact ev_ps 2 rfl (nx _ _ _ _ _ _ _ _ _ _ _ _ _ _ _ _ hC2 hR2 hM2 hN2 (by show kc + 0 + 0 ≤ c0 + (k + 1); omega) (by show ks + 0 + 0 ≤ s0' + 6 * (k + 1); omega))
      · refine ev_ps 5 rfl ?_
        refine ev_sld rfl s1 ?_
        refine ev_ps 1 rfl ?_
        refine ev_call (av := [_, _, _]) rfl rfl rfl rfl ⟨Nat.le_of_ble_eq_true rfl, rfl⟩ ⟨by show kc + 1 ≤ 1074; omega, by show ks + 6 ≤ 8598; omega⟩ (l_liveX hC _) ?_
        rintro _ _ ⟨v1, a1, g1, ⟨rfl, hg1, hk1⟩, rfl, hf1, hC1⟩
        have hR1 := rz_RR_cf hf1 hR
        have hM1 := hM.kc hk1
        have hN1 := hN.cf hf1
        refine ev_ps 6 rfl ?_
        refine ev_sld rfl s1 ?_
        refine ev_call (av := [_, _]) rfl rfl rfl rfl ⟨Nat.le_of_ble_eq_true rfl, rfl⟩ ⟨by show kc + 1 + 0 ≤ 1074; omega, by show ks + 6 + 0 ≤ 8598; omega⟩ (m_liveX hR1 _) ?_
        rintro _ _ ⟨v2, a2, rfl, ⟨rfl, h20, hk2⟩, hf2, hR2⟩
        have hC2 := rz_CC_mf hf2 hC1
        have hN2 := hN1.ks hk2
        have hM2 := hM1.mf hf2
        exact ev_ps 2 rfl (nx _ _ _ _ _ _ _ _ _ _ _ _ _ _ _ _ hC2 hR2 hM2 hN2 (by show kc + 1 + 0 ≤ c0 + (k + 1); omega) (by show ks + 6 + 0 ≤ s0' + 6 * (k + 1); omega))
      · refine ev_ps 5 rfl ?_
        refine ev_sld rfl s1 ?_
        refine ev_ps 1 rfl ?_
        refine ev_call (av := [_, _, _]) rfl rfl rfl rfl ⟨Nat.le_of_ble_eq_true rfl, rfl⟩ ⟨by show kc + 1 ≤ 1074; omega, by show ks + 6 ≤ 8598; omega⟩ (l_blockX hC _) ?_
        rintro _ _ ⟨v1, a1, g1, ⟨rfl, hg1, hk1⟩, rfl, hf1, hC1⟩
        have hR1 := rz_RR_cf hf1 hR
        have hM1 := hM.kc hk1
        have hN1 := hN.cf hf1
        refine ev_ps 6 rfl ?_
        refine ev_sld rfl s1 ?_
        refine ev_call (av := [_, _]) rfl rfl rfl rfl ⟨Nat.le_of_ble_eq_true rfl, rfl⟩ ⟨by show kc + 1 + 0 ≤ 1074; omega, by show ks + 6 + 0 ≤ 8598; omega⟩ (m_blockX hR1 _) ?_
        rintro _ _ ⟨v2, a2, rfl, ⟨rfl, h20, hk2⟩, hf2, hR2⟩
        have hC2 := rz_CC_mf hf2 hC1
        have hN2 := hN1.ks hk2
        have hM2 := hM1.mf hf2
        exact ev_ps 2 rfl (nx _ _ _ _ _ _ _ _ _ _ _ _ _ _ _ _ hC2 hR2 hM2 hN2 (by show kc + 1 + 0 ≤ c0 + (k + 1); omega) (by show ks + 6 + 0 ≤ s0' + 6 * (k + 1); omega))
      · refine ev_ps 5 rfl ?_
        refine ev_sld rfl s1 ?_
        refine ev_ps 4 rfl ?_
        refine ev_sld rfl s2 ?_
        refine ev_ps 4 rfl ?_
        refine ev_sld rfl s3 ?_
        refine ev_ps 4 rfl ?_
        refine ev_sld rfl s4 ?_
        refine ev_ps 4 rfl ?_
        refine ev_sld rfl s5 ?_
        refine ev_ps 1 rfl ?_
        refine ev_call (av := [_, _, _, _, _, _, _]) rfl rfl rfl rfl ⟨Nat.le_of_ble_eq_true rfl, rfl⟩ ⟨by show kc + 1 ≤ 1074; omega, by show ks + 6 ≤ 8598; omega⟩ (l_sameY hC _ _ _ _ _) ?_
        rintro _ _ ⟨v1, a1, g1, ⟨⟨u1, rfl⟩, hk1⟩, rfl, hf1, hC1⟩
        have hR1 := rz_RR_cf hf1 hR
        have hM1 := hM.kc hk1
        have hN1 := hN.cf hf1
        refine ev_ps 6 rfl ?_
        refine ev_sld rfl s1 ?_
        refine ev_ps 4 rfl ?_
        refine ev_sld rfl s2 ?_
        refine ev_ps 4 rfl ?_
        refine ev_sld rfl s3 ?_
        refine ev_ps 4 rfl ?_
        refine ev_sld rfl s4 ?_
        refine ev_ps 4 rfl ?_
        refine ev_sld rfl s5 ?_
        refine ev_call (av := [_, _, _, _, _, _]) rfl rfl rfl rfl ⟨Nat.le_of_ble_eq_true rfl, rfl⟩ ⟨by show kc + 1 + 0 ≤ 1074; omega, by show ks + 6 + 0 ≤ 8598; omega⟩ (m_sameY hR1 _ _ _ _ _) ?_
        rintro _ _ ⟨v2, a2, rfl, ⟨⟨u2, rfl⟩, hk2⟩, hf2, hR2⟩
        have hC2 := rz_CC_mf hf2 hC1
        have hN2 := hN1.ks hk2
        have hM2 := hM1.mf hf2
        exact ev_ps 2 rfl (nx _ _ _ _ _ _ _ _ _ _ _ _ _ _ _ _ hC2 hR2 hM2 hN2 (by show kc + 1 + 0 ≤ c0 + (k + 1); omega) (by show ks + 6 + 0 ≤ s0' + 6 * (k + 1); omega))
      · refine ev_ps 1 rfl ?_
        refine ev_call (av := [_]) rfl rfl rfl rfl ⟨Nat.le_of_ble_eq_true rfl, rfl⟩ ⟨by show kc + 0 ≤ 1074; omega, by show ks + 0 ≤ 8598; omega⟩ (p_improveX hC) ?_
        rintro _ _ ⟨v1, a1, g1, ⟨rfl, hk1⟩, rfl, hf1, hC1⟩
        have hR1 := rz_RR_cf hf1 hR
        have hM1 := hM.kc hk1
        have hN1 := hN.cf hf1
        refine ev_ps 2 rfl ?_
        refine ev_call (av := [_]) rfl rfl rfl rfl ⟨Nat.le_of_ble_eq_true rfl, rfl⟩ ⟨by show kc + 0 + 0 ≤ 1074; omega, by show ks + 0 + 0 ≤ 8598; omega⟩ (m_improveY hR1) ?_
        rintro _ _ ⟨v2, a2, rfl, ⟨rfl, hk2⟩, hf2, hR2⟩
        have hC2 := rz_CC_mf hf2 hC1
        have hN2 := hN1.ks hk2
        have hM2 := hM1.mf hf2
        exact ev_ps 2 rfl (nx _ _ _ _ _ _ _ _ _ _ _ _ _ _ _ _ hC2 hR2 hM2 hN2 (by show kc + 0 + 0 ≤ c0 + (k + 1); omega) (by show ks + 0 + 0 ≤ s0' + 6 * (k + 1); omega))
      · refine ev_ps 5 rfl ?_
        refine ev_sld rfl s1 ?_
        refine ev_call (av := [_, _]) rfl rfl rfl rfl ⟨Nat.le_of_ble_eq_true rfl, rfl⟩ ⟨by show kc + 0 ≤ 1074; omega, by show ks + 0 ≤ 8598; omega⟩ (p_countX hC _) ?_
        rintro _ _ ⟨v1, a1, g1, ⟨rfl, hk1⟩, rfl, hf1, hC1⟩
        have hR1 := rz_RR_cf hf1 hR
        have hM1 := hM.kc hk1
        have hN1 := hN.cf hf1
        refine ev_ps 6 rfl ?_
        refine ev_sld rfl s1 ?_
        refine ev_call (av := [_, _]) rfl rfl rfl rfl ⟨Nat.le_of_ble_eq_true rfl, rfl⟩ ⟨by show kc + 0 + 0 ≤ 1074; omega, by show ks + 0 + 0 ≤ 8598; omega⟩ (m_countX hR1 _) ?_
        rintro _ _ ⟨v2, a2, rfl, ⟨rfl, hk2⟩, hf2, hR2⟩
        have hC2 := rz_CC_mf hf2 hC1
        have hN2 := hN1.ks hk2
        have hM2 := hM1.mf hf2
        exact ev_ps 2 rfl (nx _ _ _ _ _ _ _ _ _ _ _ _ _ _ _ _ hC2 hR2 hM2 hN2 (by show kc + 0 + 0 ≤ c0 + (k + 1); omega) (by show ks + 0 + 0 ≤ s0' + 6 * (k + 1); omega))
