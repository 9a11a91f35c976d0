/-! the law's loop -/
section RZLAW
variable {xs : Nat → Int32} {xl pc : Nat} {L : rz_L} {st : List Value} {w : rz_W} {kc ks : Nat} {post : rz_R → rz_W → Prop}
theorem ev_sld {len x y z : Nat} {j : Int32} (hc : rz_code 0 pc = some (4, .iaload, len, x, y, z)) (hj : ¬ (j < 0 ∨ xl ≤ j.toNatClampNeg)) (k : rz_E xs xl 0 (pc + len) L (.int (xs j.toNatClampNeg) :: st) w kc ks post) : rz_E xs xl 0 pc L (.int j :: .ref 999 :: st) w kc ks post := by
  obtain ⟨n, r, w1, h1, h2⟩ := k
  refine ⟨n + 1, r, w1, ?_, h2⟩
  rw [rz_run, hc]
  exact (if_pos rfl).trans ((if_pos hj).trans h1)
theorem ev_sln {len x y z : Nat} (hc : rz_code 0 pc = some (4, .arraylength, len, x, y, z)) (k : rz_E xs xl 0 (pc + len) L (.int (Int32.ofNat xl) :: st) w kc ks post) : rz_E xs xl 0 pc L (.ref 999 :: st) w kc ks post := by
  obtain ⟨n, r, w1, h1, h2⟩ := k
  refine ⟨n + 1, r, w1, ?_, h2⟩
  rw [rz_run, hc]
  exact (if_pos rfl).trans h1
theorem rz_mi_cf {v v' : Nat → Int32} {a a' : Nat → Nat → Int32} (hf : rz_cf v a v' a') (h : rz_mi v a) : rz_mi v' a' := by
  obtain ⟨⟨n, hn, hv, hr⟩, h1, h2, h3⟩ := h
  refine ⟨⟨n, hn, by rw [hf.1 21 (by omega)]; exact hv, fun k hk => ?_⟩, ?_, ?_, ?_⟩
  · show rz_LI (a' 20 k) (a' 21 k) (a' 22 k) (a' 23 k)
    rw [hf.2 20 (by omega), hf.2 21 (by omega), hf.2 22 (by omega), hf.2 23 (by omega)]
    exact hr k hk
  · show rz_LI (a' 20 24) (a' 21 24) (a' 22 24) (a' 23 24)
    rw [hf.2 20 (by omega), hf.2 21 (by omega), hf.2 22 (by omega), hf.2 23 (by omega)]
    exact h1
  · rw [hf.2 24 (by omega)]; exact h2
  · rw [hf.2 25 (by omega)]; exact h3
theorem rz_ci_mf {v v' : Nat → Int32} {a a' : Nat → Nat → Int32} (hf : rz_mf v a v' a') (h : rz_ci v) : rz_ci v' := by
  unfold rz_ci
  rw [hf.1 0 (by omega), hf.1 4 (by omega)]
  exact h
theorem rz_mem13 {t a0 a1 a2 a3 a4 a5 a6 a7 a8 a9 a10 a11 a12 a13 : Nat} (h : t ∈ [a0, a1, a2, a3, a4, a5, a6, a7, a8, a9, a10, a11, a12, a13]) : t = a0 ∨ t = a1 ∨ t = a2 ∨ t = a3 ∨ t = a4 ∨ t = a5 ∨ t = a6 ∨ t = a7 ∨ t = a8 ∨ t = a9 ∨ t = a10 ∨ t = a11 ∨ t = a12 ∨ t = a13 := rz_mem14 h
end RZLAW
set_option maxRecDepth 50000 in
theorem rz_law {xs : Nat → Int32} {xl c0 s0' : Nat} (hxl : xl ≤ 3072) (hc0 : c0 + 512 ≤ 1074) (hs0 : s0' + 3072 ≤ 8598) : ∀ (d k : Nat), k + d = 600 → k ≤ 512 → ∀ (v : Nat → Int32) (a : Nat → Nat → Int32) (g : Nat → Int64) (l5 l6 : Option Value) (kc ks : Nat), rz_ci v → rz_mi v a → kc ≤ c0 + k → ks ≤ s0' + 6 * k →
    rz_E xs xl 0 23 [some (.ref 999), some (.ref 0), some (.ref 25), some (.ref 35), some (.int (Int32.ofNat (6 * k))), l5, l6] [] (rz_w v a g) kc ks (fun r _ => r = .inl (some (.int 1))) := by
  intro d
  induction d with
  | zero => intro k h1 h2; omega
  | succ d ih =>
    intro k hkd hk v a g l5 l6 kc ks hci hmi hkc hks
    refine ev_ps 2 rfl (ev_sln rfl ?_)
    refine ev_ps 2 rfl (ev_ic (cd := .gt) rfl (fun h => ?_) (fun h => ?_))
    · exact ev_ps 1 rfl (ev_ret rfl rfl rfl)
    · have hle : 6 * k + 6 ≤ xl := by
        have h' := rc_gt_f h
        by_cases h6 : 6 ≤ xl
        · rw [show Int32.ofNat xl - (Int8.ofInt 6).toInt32 = Int32.ofNat (xl - 6) from rz_sub (n := 6) h6, rz_lt_iff (by omega) (by omega)] at h'
          omega
        · exfalso
          apply h'
          have hx : xl = 0 ∨ xl = 1 ∨ xl = 2 ∨ xl = 3 ∨ xl = 4 ∨ xl = 5 := by omega
          have hneg : Int32.ofNat xl - (Int8.ofInt 6).toInt32 < 0 := by rcases hx with rfl | rfl | rfl | rfl | rfl | rfl <;> decide
          rw [Int32.lt_iff_toInt_lt] at hneg ⊢
          rw [rz_toInt (by omega)]
          have h0 : (0 : Int32).toInt = 0 := rfl
          omega
      have hk5 : k ≤ 511 := by omega
      have s0 : ¬ (Int32.ofNat (6 * k) < 0 ∨ xl ≤ (Int32.ofNat (6 * k)).toNatClampNeg) := rz_in (by omega) (by omega)
      have s1 : ¬ (Int32.ofNat (6 * k) + Int32.ofInt 1 < 0 ∨ xl ≤ (Int32.ofNat (6 * k) + Int32.ofInt 1).toNatClampNeg) := by
        rw [show Int32.ofNat (6 * k) + Int32.ofInt 1 = Int32.ofNat (6 * k + 1) from rz_add _ _]
        exact rz_in (by omega) (by omega)
      have s2 : ¬ (Int32.ofNat (6 * k) + Int32.ofInt 2 < 0 ∨ xl ≤ (Int32.ofNat (6 * k) + Int32.ofInt 2).toNatClampNeg) := by
        rw [show Int32.ofNat (6 * k) + Int32.ofInt 2 = Int32.ofNat (6 * k + 2) from rz_add _ _]
        exact rz_in (by omega) (by omega)
      have s3 : ¬ (Int32.ofNat (6 * k) + Int32.ofInt 3 < 0 ∨ xl ≤ (Int32.ofNat (6 * k) + Int32.ofInt 3).toNatClampNeg) := by
        rw [show Int32.ofNat (6 * k) + Int32.ofInt 3 = Int32.ofNat (6 * k + 3) from rz_add _ _]
        exact rz_in (by omega) (by omega)
      have s4 : ¬ (Int32.ofNat (6 * k) + Int32.ofInt 4 < 0 ∨ xl ≤ (Int32.ofNat (6 * k) + Int32.ofInt 4).toNatClampNeg) := by
        rw [show Int32.ofNat (6 * k) + Int32.ofInt 4 = Int32.ofNat (6 * k + 4) from rz_add _ _]
        exact rz_in (by omega) (by omega)
      have s5 : ¬ (Int32.ofNat (6 * k) + Int32.ofInt 5 < 0 ∨ xl ≤ (Int32.ofNat (6 * k) + Int32.ofInt 5).toNatClampNeg) := by
        rw [show Int32.ofNat (6 * k) + Int32.ofInt 5 = Int32.ofNat (6 * k + 5) from rz_add _ _]
        exact rz_in (by omega) (by omega)
      have nx : ∀ (l5 l6 : Option Value) (v2 : Nat → Int32) (a2 : Nat → Nat → Int32) (g2 : Nat → Int64) (kc2 ks2 : Nat), rz_ci v2 → rz_mi v2 a2 → kc2 ≤ c0 + (k + 1) → ks2 ≤ s0' + 6 * (k + 1) → rz_E xs xl 0 582 [some (.ref 999), some (.ref 0), some (.ref 25), some (.ref 35), some (.int (Int32.ofNat (6 * k))), l5, l6] [] (rz_w v2 a2 g2) kc2 ks2 (fun r _ => r = .inl (some (.int 1))) := by
        intro l5 l6 v2 a2 g2 kc2 ks2 h1 h2 h3 h4
        have h9 := ih (k + 1) (by omega) (by omega) v2 a2 g2 l5 l6 kc2 ks2 h1 h2 h3 h4
        rw [show Int32.ofNat (6 * (k + 1)) = Int32.ofNat (6 * k) + Int32.ofInt 6 from (rz_add (6 * k) 6).symm] at h9
        exact ev_ps 2 rfl h9
      refine ev_ps 2 rfl (ev_sld rfl s0 ?_)
      refine ev_ps 2 rfl (ev_tsw rfl (fun t ht => ?_))
      rcases rz_mem13 ht with rfl | rfl | rfl | rfl | rfl | rfl | rfl | rfl | rfl | rfl | rfl | rfl | rfl | rfl
      · exact nx _ _ _ _ _ _ _ hci hmi (by omega) (by omega)
      · refine ev_ps 5 rfl ?_
        refine ev_sld rfl s1 ?_
        refine ev_ps 4 rfl ?_
        refine ev_sld rfl s2 ?_
        refine ev_ps 4 rfl ?_
        refine ev_sld rfl s3 ?_
        refine ev_ps 4 rfl ?_
        refine ev_sld rfl s4 ?_
        refine ev_ps 1 rfl ?_
        refine ev_call (av := [_, _, _, _, _, _]) rfl rfl rfl rfl ⟨Nat.le_of_ble_eq_true rfl, rfl⟩ ⟨by show kc + 1 ≤ 1074; omega, by show ks + 6 ≤ 8598; omega⟩ (l_add hci _ _ _ _) ?_
        rintro _ _ ⟨⟨u1, rfl⟩, v1, a1, g1, rfl, hf1, hc1⟩
        have hm1 := rz_mi_cf hf1 hmi
        refine ev_ps 6 rfl ?_
        refine ev_sld rfl s1 ?_
        refine ev_ps 4 rfl ?_
        refine ev_sld rfl s2 ?_
        refine ev_ps 4 rfl ?_
        refine ev_sld rfl s3 ?_
        refine ev_ps 4 rfl ?_
        refine ev_sld rfl s4 ?_
        refine ev_call (av := [_, _, _, _, _]) rfl rfl rfl rfl ⟨Nat.le_of_ble_eq_true rfl, rfl⟩ ⟨by show kc + 1 + 0 ≤ 1074; omega, by show ks + 6 + 0 ≤ 8598; omega⟩ (m_add hm1 _ _ _ _) ?_
        rintro _ _ ⟨⟨u2, rfl⟩, v2, a2, rfl, hf2, hm2⟩
        have hc2 := rz_ci_mf hf2 hc1
        exact ev_ps 2 rfl (nx _ _ _ _ _ _ _ hc2 hm2 (by show kc + 1 + 0 ≤ c0 + (k + 1); omega) (by show ks + 6 + 0 ≤ s0' + 6 * (k + 1); omega))
      · refine ev_ps 5 rfl ?_
        refine ev_sld rfl s1 ?_
        refine ev_ps 4 rfl ?_
        refine ev_sld rfl s2 ?_
        refine ev_ps 4 rfl ?_
        refine ev_sld rfl s3 ?_
        refine ev_ps 4 rfl ?_
        refine ev_sld rfl s4 ?_
        refine ev_ps 4 rfl ?_
        refine ev_sld rfl s5 ?_
        refine ev_call (av := [_, _, _, _, _, _]) rfl rfl rfl rfl ⟨Nat.le_of_ble_eq_true rfl, rfl⟩ ⟨by show kc + 1 ≤ 1074; omega, by show ks + 6 ≤ 8598; omega⟩ (l_replace hci _ _ _ _ _) ?_
        rintro _ _ ⟨⟨u1, rfl⟩, v1, a1, g1, rfl, hf1, hc1⟩
        have hm1 := rz_mi_cf hf1 hmi
        refine ev_ps 6 rfl ?_
        refine ev_sld rfl s1 ?_
        refine ev_ps 4 rfl ?_
        refine ev_sld rfl s2 ?_
        refine ev_ps 4 rfl ?_
        refine ev_sld rfl s3 ?_
        refine ev_ps 4 rfl ?_
        refine ev_sld rfl s4 ?_
        refine ev_ps 4 rfl ?_
        refine ev_sld rfl s5 ?_
        refine ev_call (av := [_, _, _, _, _, _]) rfl rfl rfl rfl ⟨Nat.le_of_ble_eq_true rfl, rfl⟩ ⟨by show kc + 1 + 0 ≤ 1074; omega, by show ks + 6 + 0 ≤ 8598; omega⟩ (m_replace hm1 _ _ _ _ _) ?_
        rintro _ _ ⟨rfl, v2, a2, rfl, hf2, hm2⟩
        have hc2 := rz_ci_mf hf2 hc1
        exact ev_ps 1 rfl (nx _ _ _ _ _ _ _ hc2 hm2 (by show kc + 1 + 0 ≤ c0 + (k + 1); omega) (by show ks + 6 + 0 ≤ s0' + 6 * (k + 1); omega))
      · refine ev_ps 1 rfl ?_
        refine ev_call (av := [_]) rfl rfl rfl rfl ⟨Nat.le_of_ble_eq_true rfl, rfl⟩ ⟨by show kc + 0 ≤ 1074; omega, by show ks + 0 ≤ 8598; omega⟩ (p_clear hci) ?_
        rintro _ _ ⟨⟨u1, rfl⟩, v1, a1, rfl, hf1, hc1⟩
        have hm1 := rz_mi_cf hf1 hmi
        refine ev_ps 2 rfl ?_
        refine ev_call (av := [_]) rfl rfl rfl rfl ⟨Nat.le_of_ble_eq_true rfl, rfl⟩ ⟨by show kc + 0 + 0 ≤ 1074; omega, by show ks + 0 + 0 ≤ 8598; omega⟩ (m_clear hm1) ?_
        rintro _ _ ⟨⟨u2, rfl⟩, v2, a2, rfl, hf2, hm2⟩
        have hc2 := rz_ci_mf hf2 hc1
        exact ev_ps 2 rfl (nx _ _ _ _ _ _ _ hc2 hm2 (by show kc + 0 + 0 ≤ c0 + (k + 1); omega) (by show ks + 0 + 0 ≤ s0' + 6 * (k + 1); omega))
      · refine ev_ps 1 rfl ?_
        refine ev_call (av := [_]) rfl rfl rfl rfl ⟨Nat.le_of_ble_eq_true rfl, rfl⟩ ⟨by show kc + 0 ≤ 1074; omega, by show ks + 0 ≤ 8598; omega⟩ (p_size hci) ?_
        rintro _ _ ⟨⟨u1, rfl⟩, v1, a1, rfl, hf1, hc1⟩
        have hm1 := rz_mi_cf hf1 hmi
        refine ev_ps 2 rfl ?_
        refine ev_call (av := [_]) rfl rfl rfl rfl ⟨Nat.le_of_ble_eq_true rfl, rfl⟩ ⟨by show kc + 0 + 0 ≤ 1074; omega, by show ks + 0 + 0 ≤ 8598; omega⟩ (m_size hm1) ?_
        rintro _ _ ⟨⟨u2, rfl⟩, v2, a2, rfl, hf2, hm2⟩
        have hc2 := rz_ci_mf hf2 hc1
        exact ev_ps 2 rfl (nx _ _ _ _ _ _ _ hc2 hm2 (by show kc + 0 + 0 ≤ c0 + (k + 1); omega) (by show ks + 0 + 0 ≤ s0' + 6 * (k + 1); omega))
      · refine ev_ps 5 rfl ?_
        refine ev_sld rfl s1 ?_
        refine ev_ps 4 rfl ?_
        refine ev_sld rfl s2 ?_
        refine ev_ps 1 rfl ?_
        refine ev_call (av := [_, _, _, _]) rfl rfl rfl rfl ⟨Nat.le_of_ble_eq_true rfl, rfl⟩ ⟨by show kc + 1 ≤ 1074; omega, by show ks + 6 ≤ 8598; omega⟩ (l_instruction hci _ _) ?_
        rintro _ _ ⟨⟨u1, rfl⟩, v1, a1, g1, rfl, hf1, hc1⟩
        have hm1 := rz_mi_cf hf1 hmi
        refine ev_ps 6 rfl ?_
        refine ev_sld rfl s1 ?_
        refine ev_ps 4 rfl ?_
        refine ev_sld rfl s2 ?_
        refine ev_call (av := [_, _, _]) rfl rfl rfl rfl ⟨Nat.le_of_ble_eq_true rfl, rfl⟩ ⟨by show kc + 1 + 0 ≤ 1074; omega, by show ks + 6 + 0 ≤ 8598; omega⟩ (m_instruction hm1 _ _) ?_
        rintro _ _ ⟨⟨u2, rfl⟩, v2, a2, rfl, hf2, hm2⟩
        have hc2 := rz_ci_mf hf2 hc1
        exact ev_ps 2 rfl (nx _ _ _ _ _ _ _ hc2 hm2 (by show kc + 1 + 0 ≤ c0 + (k + 1); omega) (by show ks + 6 + 0 ≤ s0' + 6 * (k + 1); omega))
      · refine ev_ps 5 rfl ?_
        refine ev_sld rfl s1 ?_
        refine ev_ps 4 rfl ?_
        refine ev_sld rfl s2 ?_
        refine ev_call (av := [_, _, _]) rfl rfl rfl rfl ⟨Nat.le_of_ble_eq_true rfl, rfl⟩ ⟨by show kc + 1 ≤ 1074; omega, by show ks + 6 ≤ 8598; omega⟩ (l_start hci _ _) ?_
        rintro _ _ ⟨hor, v1, a1, g1, rfl, hf1, hc1⟩
        have hm1 := rz_mi_cf hf1 hmi
        have key : ∀ b : Int32, ((b = 0 ∧ rz_sok (xs (Int32.ofNat (6 * k) + Int32.ofInt 1).toNatClampNeg) (xs (Int32.ofNat (6 * k) + Int32.ofInt 2).toNatClampNeg)) ∨ (b = 1 ∧ ¬ rz_sok (xs (Int32.ofNat (6 * k) + Int32.ofInt 1).toNatClampNeg) (xs (Int32.ofNat (6 * k) + Int32.ofInt 2).toNatClampNeg))) → rz_E xs xl 0 327 [some (.ref 999), some (.ref 0), some (.ref 25), some (.ref 35), some (.int (Int32.ofNat (6 * k))), l5, l6] [.int b] (rz_w v1 a1 g1) (kc + 1) (ks + 6) (fun r _ => r = .inl (some (.int 1))) := by
          intro b hb
          refine ev_ps 6 rfl ?_
          refine ev_sld rfl s1 ?_
          refine ev_ps 4 rfl ?_
          refine ev_sld rfl s2 ?_
          refine ev_call (av := [_, _, _]) rfl rfl rfl rfl ⟨Nat.le_of_ble_eq_true rfl, rfl⟩ ⟨by show kc + 1 + 0 ≤ 1074; omega, by show ks + 6 + 0 ≤ 8598; omega⟩ (m_start hm1 _ _) ?_
          rintro _ _ ⟨rfl, v2, a2, rfl, hf2, hm2, h20⟩
          have hc2 := rz_ci_mf hf2 hc1
          refine ev_ps 1 rfl ?_
          refine ev_call (av := [_]) rfl rfl rfl rfl ⟨Nat.le_of_ble_eq_true rfl, rfl⟩ ⟨by show kc + 1 + 0 + 0 ≤ 1074; omega, by show ks + 6 + 0 + 0 ≤ 8598; omega⟩ m_thrown ?_
          rintro _ _ ⟨rfl, rfl⟩
          refine ev_ps 1 rfl (ev_ic (cd := .eq) rfl (fun h => ?_) (fun h => ?_))
          · exact ev_ps 1 rfl (nx _ _ _ _ _ _ _ hc2 hm2 (by show kc + 1 + 0 + 0 ≤ c0 + (k + 1); omega) (by show ks + 6 + 0 + 0 ≤ s0' + 6 * (k + 1); omega))
          · exfalso
            apply rc_eq_f h
            rcases hb with ⟨e1, q1⟩ | ⟨e1, q1⟩
            · rcases h20 with ⟨e2, q2⟩ | ⟨e2, q2⟩
              · rw [e1, e2]
              · exact absurd q1 q2
            · rcases h20 with ⟨e2, q2⟩ | ⟨e2, q2⟩
              · exact absurd q2 q1
              · rw [e1, e2]
        rcases hor with ⟨rfl, q⟩ | ⟨rfl, q⟩
        · exact key 0 (Or.inl ⟨rfl, q⟩)
        · exact key 1 (Or.inr ⟨rfl, q⟩)
      · refine ev_ps 5 rfl ?_
        refine ev_sld rfl s1 ?_
        refine ev_ps 1 rfl ?_
        refine ev_call (av := [_, _, _]) rfl rfl rfl rfl ⟨Nat.le_of_ble_eq_true rfl, rfl⟩ ⟨by show kc + 1 ≤ 1074; omega, by show ks + 6 ≤ 8598; omega⟩ (l_run hci _) ?_
        rintro _ _ ⟨⟨u1, rfl⟩, v1, a1, g1, rfl, hf1, hc1⟩
        have hm1 := rz_mi_cf hf1 hmi
        refine ev_ps 6 rfl ?_
        refine ev_sld rfl s1 ?_
        refine ev_call (av := [_, _]) rfl rfl rfl rfl ⟨Nat.le_of_ble_eq_true rfl, rfl⟩ ⟨by show kc + 1 + 0 ≤ 1074; omega, by show ks + 6 + 0 ≤ 8598; omega⟩ (m_run hm1 _) ?_
        rintro _ _ ⟨⟨u2, rfl⟩, v2, a2, rfl, hf2, hm2⟩
        have hc2 := rz_ci_mf hf2 hc1
        exact ev_ps 2 rfl (nx _ _ _ _ _ _ _ hc2 hm2 (by show kc + 1 + 0 ≤ c0 + (k + 1); omega) (by show ks + 6 + 0 ≤ s0' + 6 * (k + 1); omega))
      · refine ev_ps 5 rfl ?_
        refine ev_sld rfl s1 ?_
        refine ev_call (av := [_, _]) rfl rfl rfl rfl ⟨Nat.le_of_ble_eq_true rfl, rfl⟩ ⟨by show kc + 0 ≤ 1074; omega, by show ks + 0 ≤ 8598; omega⟩ (p_result hci _) ?_
        rintro _ _ ⟨⟨u1, rfl⟩, v1, a1, rfl, hf1, hc1⟩
        have hm1 := rz_mi_cf hf1 hmi
        refine ev_ps 6 rfl ?_
        refine ev_sld rfl s1 ?_
        refine ev_call (av := [_, _]) rfl rfl rfl rfl ⟨Nat.le_of_ble_eq_true rfl, rfl⟩ ⟨by show kc + 0 + 0 ≤ 1074; omega, by show ks + 0 + 0 ≤ 8598; omega⟩ (m_result hm1 _) ?_
        rintro _ _ ⟨⟨u2, rfl⟩, v2, a2, rfl, hf2, hm2⟩
        have hc2 := rz_ci_mf hf2 hc1
        exact ev_ps 2 rfl (nx _ _ _ _ _ _ _ hc2 hm2 (by show kc + 0 + 0 ≤ c0 + (k + 1); omega) (by show ks + 0 + 0 ≤ s0' + 6 * (k + 1); omega))
      · refine ev_ps 5 rfl ?_
        refine ev_sld rfl s1 ?_
        refine ev_ps 1 rfl ?_
        refine ev_call (av := [_, _, _]) rfl rfl rfl rfl ⟨Nat.le_of_ble_eq_true rfl, rfl⟩ ⟨by show kc + 1 ≤ 1074; omega, by show ks + 6 ≤ 8598; omega⟩ (l_live hci _) ?_
        rintro _ _ ⟨⟨u1, rfl⟩, v1, a1, g1, rfl, hf1, hc1⟩
        have hm1 := rz_mi_cf hf1 hmi
        refine ev_ps 6 rfl ?_
        refine ev_sld rfl s1 ?_
        refine ev_call (av := [_, _]) rfl rfl rfl rfl ⟨Nat.le_of_ble_eq_true rfl, rfl⟩ ⟨by show kc + 1 + 0 ≤ 1074; omega, by show ks + 6 + 0 ≤ 8598; omega⟩ (m_live hm1 _) ?_
        rintro _ _ ⟨⟨u2, rfl⟩, v2, a2, rfl, hf2, hm2⟩
        have hc2 := rz_ci_mf hf2 hc1
        exact ev_ps 2 rfl (nx _ _ _ _ _ _ _ hc2 hm2 (by show kc + 1 + 0 ≤ c0 + (k + 1); omega) (by show ks + 6 + 0 ≤ s0' + 6 * (k + 1); omega))
      · refine ev_ps 5 rfl ?_
        refine ev_sld rfl s1 ?_
        refine ev_ps 1 rfl ?_
        refine ev_call (av := [_, _, _]) rfl rfl rfl rfl ⟨Nat.le_of_ble_eq_true rfl, rfl⟩ ⟨by show kc + 1 ≤ 1074; omega, by show ks + 6 ≤ 8598; omega⟩ (l_block hci _) ?_
        rintro _ _ ⟨⟨u1, rfl⟩, v1, a1, g1, rfl, hf1, hc1⟩
        have hm1 := rz_mi_cf hf1 hmi
        refine ev_ps 6 rfl ?_
        refine ev_sld rfl s1 ?_
        refine ev_call (av := [_, _]) rfl rfl rfl rfl ⟨Nat.le_of_ble_eq_true rfl, rfl⟩ ⟨by show kc + 1 + 0 ≤ 1074; omega, by show ks + 6 + 0 ≤ 8598; omega⟩ (m_block hm1 _) ?_
        rintro _ _ ⟨⟨u2, rfl⟩, v2, a2, rfl, hf2, hm2⟩
        have hc2 := rz_ci_mf hf2 hc1
        exact ev_ps 2 rfl (nx _ _ _ _ _ _ _ hc2 hm2 (by show kc + 1 + 0 ≤ c0 + (k + 1); omega) (by show ks + 6 + 0 ≤ s0' + 6 * (k + 1); omega))
      · refine ev_ps 5 rfl ?_
        refine ev_sld rfl s1 ?_
        refine ev_ps 4 rfl ?_
        refine ev_sld rfl s2 ?_
        refine ev_ps 4 rfl ?_
        refine ev_sld rfl s3 ?_
        refine ev_ps 4 rfl ?_
        refine ev_sld rfl s4 ?_
        refine ev_ps 4 rfl ?_
        refine ev_sld rfl s5 ?_
        refine ev_ps 1 rfl ?_
        refine ev_call (av := [_, _, _, _, _, _, _]) rfl rfl rfl rfl ⟨Nat.le_of_ble_eq_true rfl, rfl⟩ ⟨by show kc + 1 ≤ 1074; omega, by show ks + 6 ≤ 8598; omega⟩ (l_same hci _ _ _ _ _) ?_
        rintro _ _ ⟨⟨u1, rfl⟩, v1, a1, g1, rfl, hf1, hc1⟩
        have hm1 := rz_mi_cf hf1 hmi
        refine ev_ps 6 rfl ?_
        refine ev_sld rfl s1 ?_
        refine ev_ps 4 rfl ?_
        refine ev_sld rfl s2 ?_
        refine ev_ps 4 rfl ?_
        refine ev_sld rfl s3 ?_
        refine ev_ps 4 rfl ?_
        refine ev_sld rfl s4 ?_
        refine ev_ps 4 rfl ?_
        refine ev_sld rfl s5 ?_
        refine ev_call (av := [_, _, _, _, _, _]) rfl rfl rfl rfl ⟨Nat.le_of_ble_eq_true rfl, rfl⟩ ⟨by show kc + 1 + 0 ≤ 1074; omega, by show ks + 6 + 0 ≤ 8598; omega⟩ (m_same hm1 _ _ _ _ _) ?_
        rintro _ _ ⟨⟨u2, rfl⟩, v2, a2, rfl, hf2, hm2⟩
        have hc2 := rz_ci_mf hf2 hc1
        exact ev_ps 2 rfl (nx _ _ _ _ _ _ _ hc2 hm2 (by show kc + 1 + 0 ≤ c0 + (k + 1); omega) (by show ks + 6 + 0 ≤ s0' + 6 * (k + 1); omega))
      · refine ev_ps 1 rfl ?_
        refine ev_call (av := [_]) rfl rfl rfl rfl ⟨Nat.le_of_ble_eq_true rfl, rfl⟩ ⟨by show kc + 0 ≤ 1074; omega, by show ks + 0 ≤ 8598; omega⟩ (p_improve hci) ?_
        rintro _ _ ⟨⟨u1, rfl⟩, v1, a1, rfl, hf1, hc1⟩
        have hm1 := rz_mi_cf hf1 hmi
        refine ev_ps 2 rfl ?_
        refine ev_call (av := [_]) rfl rfl rfl rfl ⟨Nat.le_of_ble_eq_true rfl, rfl⟩ ⟨by show kc + 0 + 0 ≤ 1074; omega, by show ks + 0 + 0 ≤ 8598; omega⟩ (m_improve hm1) ?_
        rintro _ _ ⟨⟨u2, rfl⟩, v2, a2, rfl, hf2, hm2⟩
        have hc2 := rz_ci_mf hf2 hc1
        exact ev_ps 2 rfl (nx _ _ _ _ _ _ _ hc2 hm2 (by show kc + 0 + 0 ≤ c0 + (k + 1); omega) (by show ks + 0 + 0 ≤ s0' + 6 * (k + 1); omega))
      · refine ev_ps 5 rfl ?_
        refine ev_sld rfl s1 ?_
        refine ev_call (av := [_, _]) rfl rfl rfl rfl ⟨Nat.le_of_ble_eq_true rfl, rfl⟩ ⟨by show kc + 0 ≤ 1074; omega, by show ks + 0 ≤ 8598; omega⟩ (p_count hci _) ?_
        rintro _ _ ⟨⟨u1, rfl⟩, v1, a1, rfl, hf1, hc1⟩
        have hm1 := rz_mi_cf hf1 hmi
        refine ev_ps 6 rfl ?_
        refine ev_sld rfl s1 ?_
        refine ev_call (av := [_, _]) rfl rfl rfl rfl ⟨Nat.le_of_ble_eq_true rfl, rfl⟩ ⟨by show kc + 0 + 0 ≤ 1074; omega, by show ks + 0 + 0 ≤ 8598; omega⟩ (m_count hm1 _) ?_
        rintro _ _ ⟨⟨u2, rfl⟩, v2, a2, rfl, hf2, hm2⟩
        have hc2 := rz_ci_mf hf2 hc1
        exact ev_ps 2 rfl (nx _ _ _ _ _ _ _ hc2 hm2 (by show kc + 0 + 0 ≤ c0 + (k + 1); omega) (by show ks + 0 + 0 ≤ s0' + 6 * (k + 1); omega))
