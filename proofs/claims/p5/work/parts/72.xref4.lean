/-! the reference, exactly: improving -/
section RZX4
variable {xs : Nat → Int32} {xl : Nat} {v : Nat → Int32} {a : Nat → Nat → Int32} {g : Nat → Int64} {R : Nat → rz_Q} {n p k l j : Nat}
theorem rz_IM_no (h : ¬ rz_ir R n p (k + 1)) : rz_IM R n p (k + 1) l = rz_IM R n p k l := by
  rw [rz_IM, rz_dc_f h]; rfl
theorem rz_IM_nd (h : rz_ir R n p (k + 1)) (h2 : rz_nd R p (k + 1) (rz_S R n (p + (k + 1)))) : rz_IM R n p (k + 1) l = (some (k + 1, none), l + 1) := by
  rw [rz_IM, rz_dc_t h, if_pos rfl, rz_dc_t h2, if_pos rfl]
theorem rz_IM_1 (h : rz_ir R n p (k + 1)) (h2 : ¬ rz_nd R p (k + 1) (rz_S R n (p + (k + 1)))) (hk : ¬ 1 < k + 1) : rz_IM R n p (k + 1) l = rz_IM R n p k (l + 1) := by
  rw [rz_IM, rz_dc_t h, if_pos rfl, rz_dc_f h2, if_neg (by decide), if_neg hk]
theorem rz_IM_f (h : rz_ir R n p (k + 1)) (h2 : ¬ rz_nd R p (k + 1) (rz_S R n (p + (k + 1)))) (hk : 1 < k + 1) (hj : j < 1920) (hx : rz_jx R p (k + 1) (rz_S R n (p + (k + 1))) = j) : rz_IM R n p (k + 1) l = (some (k + 1, some j), l + 1 + rz_ct (rz_ch R p (k + 1)) (j + 1)) := by
  rw [rz_IM, rz_dc_t h, if_pos rfl, rz_dc_f h2, if_neg (by decide), if_pos hk, hx, if_pos hj]
theorem rz_IM_g (h : rz_ir R n p (k + 1)) (h2 : ¬ rz_nd R p (k + 1) (rz_S R n (p + (k + 1)))) (hk : 1 < k + 1) (hj : ¬ j < 1920) (hx : rz_jx R p (k + 1) (rz_S R n (p + (k + 1))) = j) : rz_IM R n p (k + 1) l = rz_IM R n p k (l + 1 + rz_ct (rz_ch R p (k + 1)) 1920) := by
  rw [rz_IM, rz_dc_t h, if_pos rfl, rz_dc_f h2, if_neg (by decide), if_pos hk, hx, if_neg hj]
/-- the reference holds this program and these counts -/
def rz_RR (v : Nat → Int32) (a : Nat → Nat → Int32) (R : Nat → rz_Q) (n r b l : Nat) : Prop := n ≤ 24 ∧ v 21 = Int32.ofNat n ∧ rz_pr a R n ∧ rz_lgs R n ∧ rz_li a 24 ∧ rz_sm (a 24) 12 ∧ rz_sm (a 25) 12 ∧ v 24 = Int32.ofNat r ∧ v 25 = Int32.ofNat b ∧ v 26 = Int32.ofNat l
/-- its machine is as it was -/
def rz_ks (v : Nat → Int32) (a : Nat → Nat → Int32) (v' : Nat → Int32) (a' : Nat → Nat → Int32) : Prop := v' 22 = v 22 ∧ v' 23 = v 23 ∧ a' 24 = a 24 ∧ a' 25 = a 25
theorem rz_ks.rf : rz_ks v a v a := ⟨rfl, rfl, rfl, rfl⟩
theorem rz_ks.tr {v1 v2 : Nat → Int32} {a1 a2 : Nat → Nat → Int32} (h : rz_ks v a v1 a1) (h2 : rz_ks v1 a1 v2 a2) : rz_ks v a v2 a2 := ⟨h2.1.trans h.1, h2.2.1.trans h.2.1, h2.2.2.1.trans h.2.2.1, h2.2.2.2.trans h.2.2.2⟩
theorem rz_RR.mi {r b : Nat} (h : rz_RR v a R n r b l) : rz_mi v a := ⟨⟨n, h.1, h.2.1, fun k hk => rz_pr_li h.2.2.1 h.2.2.2.1 hk⟩, h.2.2.2.2.1, h.2.2.2.2.2.1, h.2.2.2.2.2.2.1⟩
/-- arrays 26 and on are scratch -/
theorem rz_RR.ua {r b i : Nat} (h : rz_RR v a R n r b l) (hi : 26 ≤ i) (f : Nat → Int32) : rz_RR v (rz_ua a i f) R n r b l := by
  have e : ∀ j, j < 26 → rz_ua a i f j = a j := fun j hj => if_neg (by omega)
  obtain ⟨h1, h2, h3, h4, h5, h6, h7, h8⟩ := h
  refine ⟨h1, h2, fun k hk => ?_, h4, ?_, ?_, ?_, h8⟩
  · rw [e 20 (by omega), e 21 (by omega), e 22 (by omega), e 23 (by omega)]; exact h3 k hk
  · show rz_LI (rz_ua a i f 20 24) (rz_ua a i f 21 24) (rz_ua a i f 22 24) (rz_ua a i f 23 24)
    rw [e 20 (by omega), e 21 (by omega), e 22 (by omega), e 23 (by omega)]; exact h5
  · rw [e 24 (by omega)]; exact h6
  · rw [e 25 (by omega)]; exact h7
theorem m_improvedX {r b : Nat} (hR : rz_RR v a R n r b l) (hp : p < n) : rz_C xs xl 98 [.ref 25, .int (Int32.ofNat p)] (rz_w v a g) (fun q w' => ∃ (v' : Nat → Int32) (a' : Nat → Nat → Int32), q = .inl (some (.int (rz_im R n p r b l).1)) ∧ w' = rz_w v' a' g ∧ rz_mf v a v' a' ∧ rz_ks v a v' a' ∧ rz_RR v' a' (rz_im R n p r b l).2.1 (rz_im R n p r b l).2.2.1 (rz_im R n p r b l).2.2.2.1 (rz_im R n p r b l).2.2.2.2.1 (rz_im R n p r b l).2.2.2.2.2 ∧ (rz_im R n p r b l).2.2.1 - rz_nx p (rz_im R n p r b l).1 < n - p) := by
  have hn := hR.1
  refine ev_ps 1 rfl (ev_call (av := [_]) rfl rfl rfl rfl ⟨Nat.le_of_ble_eq_true rfl, rfl⟩ ⟨Nat.le_of_ble_eq_true rfl, Nat.le_of_ble_eq_true rfl⟩ (m_findLivesX hn hR.2.1 hR.2.2.1 hR.2.2.2.1) ?_)
  rintro _ _ ⟨rfl, f0, rfl, hf0⟩
  refine ev_ps 2 rfl ?_
  refine ev_loop (α := Nat × Option Value × Option Value × (Nat → Int32) × (Nat → Nat → Int32) × Nat) (fun r => r.1) (fun t => t.1 ≤ 3 ∧ rz_mf v a t.2.2.2.1 t.2.2.2.2.1 ∧ rz_ks v a t.2.2.2.1 t.2.2.2.2.1 ∧ rz_RR t.2.2.2.1 t.2.2.2.2.1 R n r b t.2.2.2.2.2 ∧ (∀ k, k < n → t.2.2.2.2.1 26 k = rz_lv R n k) ∧ rz_IM R n p 3 l = rz_IM R n p t.1 t.2.2.2.2.2) (fun r => [some (.ref 25), some (.int (Int32.ofNat p)), some (.int (Int32.ofNat r.1)), r.2.1, r.2.2.1]) (fun _ => []) (fun r => rz_w r.2.2.2.1 r.2.2.2.2.1 g) ?_ (3, none, none, v, rz_ua a 26 f0, l) ⟨Nat.le_refl _, rz_mf.rf.ua (by omega) _, rz_ks.rf, hR.ua (by omega) _, hf0, rfl⟩
  rintro ⟨mm, l3, l4, v1, a1, lk⟩ ⟨hm, hf, hk, hR1, h26, hIM⟩ ih
  dsimp only at hm hf hk hR1 h26 hIM ih ⊢
  refine ev_ps 1 rfl (ev_if (cd := .le) rfl (fun h => ?_) (fun h => ?_))
  · have hm0 : mm = 0 := by have := rn_le_t (k := 0) (by omega) (by omega) h; omega
    subst hm0
    have eim : rz_im R n p r b l = (-1, R, n, r, b, lk) := by unfold rz_im; rw [hIM]; rfl
    exact ev_ps 1 rfl (ev_ret rfl rfl ⟨v1, a1, by rw [eim]; rfl, rfl, hf, hk, by rw [eim]; exact hR1, by rw [eim]; show n - (p + 1) < n - p; omega⟩)
  · obtain ⟨k, rfl⟩ : ∃ k, mm = k + 1 := ⟨mm - 1, by have := rn_le_f (k := 0) (by omega) (by omega) h; omega⟩
    have next : ∀ (l3 l4 : Option Value) (v2 : Nat → Int32) (a2 : Nat → Nat → Int32) (lk2 : Nat), rz_mf v a v2 a2 → rz_ks v a v2 a2 → rz_RR v2 a2 R n r b lk2 → (∀ k, k < n → a2 26 k = rz_lv R n k) → rz_IM R n p 3 l = rz_IM R n p k lk2 → rz_E xs xl 98 91 [some (.ref 25), some (.int (Int32.ofNat p)), some (.int (Int32.ofNat (k + 1))), l3, l4] [] (rz_w v2 a2 g) 0 0 (fun q w' => ∃ (v' : Nat → Int32) (a' : Nat → Nat → Int32), q = .inl (some (.int (rz_im R n p r b l).1)) ∧ w' = rz_w v' a' g ∧ rz_mf v a v' a' ∧ rz_ks v a v' a' ∧ rz_RR v' a' (rz_im R n p r b l).2.1 (rz_im R n p r b l).2.2.1 (rz_im R n p r b l).2.2.2.1 (rz_im R n p r b l).2.2.2.2.1 (rz_im R n p r b l).2.2.2.2.2 ∧ (rz_im R n p r b l).2.2.1 - rz_nx p (rz_im R n p r b l).1 < n - p) := by
      intro l3 l4 v2 a2 lk2 hf2 hk2 hR2 h262 hIM2
      have h9 := ih (k, l3, l4, v2, a2, lk2) ⟨by show k ≤ 3; omega, hf2, hk2, hR2, h262, hIM2⟩ (by show k < k + 1; omega)
      dsimp only at h9
      rw [show Int32.ofNat k = Int32.ofNat (k + 1) + Int32.ofInt (-1) from by
        rw [← rz_succ k]
        exact (Int32.add_sub_cancel (Int32.ofNat k) 1).symm.trans (Int32.sub_eq_add_neg _ _)] at h9
      exact ev_ps 2 rfl h9
    refine ev_ps 3 rfl (ev_call (av := [_, _, _]) rfl rfl rfl rfl ⟨Nat.le_of_ble_eq_true rfl, rfl⟩ ⟨Nat.le_of_ble_eq_true rfl, Nat.le_of_ble_eq_true rfl⟩ (m_isRowX hR1.2.1 hn (by omega) hm (by omega) hR1.2.2.1 hR1.2.2.2.1) ?_)
    rintro _ _ ⟨⟨u, hu, hui, rfl⟩, rfl⟩
    refine ev_if (cd := .eq) rfl (fun h1 => ?_) (fun h1 => ?_)
    · have hir : ¬ rz_ir R n p (k + 1) := fun q => absurd ((rc_eq_t h1).symm.trans (hui.mpr q)) (by decide)
      exact next _ _ _ _ _ hf hk hR1 h26 (hIM.trans (rz_IM_no hir))
    have hir : rz_ir R n p (k + 1) := hui.mp (hu.resolve_left (rc_eq_f h1))
    have hpm := hir.1
    refine ev_ps 4 rfl ?_
    refine ev_call (av := [.ref 25, .int (Int32.ofNat (p + (k + 1)))]) rfl (by rw [← rz_add p (k + 1)]; rfl) rfl rfl ⟨Nat.le_of_ble_eq_true rfl, rfl⟩ ⟨Nat.le_of_ble_eq_true rfl, Nat.le_of_ble_eq_true rfl⟩ (m_livesAt hR1.2.1 hn (by omega)) ?_
    rintro _ _ ⟨rfl, rfl⟩
    rw [show rz_at n (a1 26) (p + (k + 1)) = rz_S R n (p + (k + 1)) from rz_at_cg h26]
    refine ev_ps 7 rfl (ev_w (w2 := rz_w (rz_up v1 26 (Int32.ofNat (lk + 1))) a1 g) (by rw [← rz_succ lk, ← hR1.2.2.2.2.2.2.2.2.2]; rfl) ?_)
    have hup : ∀ (y : Nat), rz_mf v a (rz_up v1 26 (Int32.ofNat y)) a1 ∧ rz_ks v a (rz_up v1 26 (Int32.ofNat y)) a1 ∧ rz_RR (rz_up v1 26 (Int32.ofNat y)) a1 R n r b y := fun y => ⟨hf.up (by omega) _, hk, hR1.1, hR1.2.1, hR1.2.2.1, hR1.2.2.2.1, hR1.2.2.2.2.1, hR1.2.2.2.2.2.1, hR1.2.2.2.2.2.2.1, hR1.2.2.2.2.2.2.2.1, hR1.2.2.2.2.2.2.2.2.1, rfl⟩
    -- the end of a turn
    have fin : ∀ (c : Nat) (q : rz_Q) (l3 l4 : Option Value) (v2 : Nat → Int32) (a2 : Nat → Nat → Int32) (lk2 : Nat), c ≤ 1 → rz_mf v a v2 a2 → rz_ks v a v2 a2 → rz_RR v2 a2 R n r b lk2 → (c ≠ 0 → rz_rw a2 24 q ∧ q.1 ≤ 9) → rz_im R n p r b l = (Int32.ofNat c, rz_cu R p (k + 1) c q, n - (k + 1 - c), r + 1, (if c = 0 then b + 1 else b), lk2) → rz_E xs xl 98 73 [some (.ref 25), some (.int (Int32.ofNat p)), some (.int (Int32.ofNat (k + 1))), l3, l4] [.int (Int32.ofNat c)] (rz_w v2 a2 g) 0 0 (fun q w' => ∃ (v' : Nat → Int32) (a' : Nat → Nat → Int32), q = .inl (some (.int (rz_im R n p r b l).1)) ∧ w' = rz_w v' a' g ∧ rz_mf v a v' a' ∧ rz_ks v a v' a' ∧ rz_RR v' a' (rz_im R n p r b l).2.1 (rz_im R n p r b l).2.2.1 (rz_im R n p r b l).2.2.2.1 (rz_im R n p r b l).2.2.2.2.1 (rz_im R n p r b l).2.2.2.2.2 ∧ (rz_im R n p r b l).2.2.1 - rz_nx p (rz_im R n p r b l).1 < n - p) := by
      intro c q l3 l4 v2 a2 lk2 hc hf2 hk2 hR2 hq eim
      refine ev_ps 2 rfl (ev_if (cd := .lt) rfl (fun h2 => ?_) (fun h2 => ?_))
      · exact absurd (rn_lt_t (k := 0) (by omega) (by omega) h2) (by omega)
      · refine ev_ps 4 rfl (ev_call (av := [_, _, _, _]) rfl rfl rfl rfl ⟨Nat.le_of_ble_eq_true rfl, rfl⟩ ⟨Nat.le_of_ble_eq_true rfl, Nat.le_of_ble_eq_true rfl⟩ (m_cutX (q := q) hR2.2.1 hn hir hc (by omega) hR2.2.2.1 hR2.2.2.2.1 hR2.2.2.2.2.1 hq) ?_)
        rintro _ _ ⟨rfl, v3, a3, rfl, hf3, hv3, hpr3, g24, g25, gli, hr3, hb3, hoth⟩
        refine ev_ps 1 rfl (ev_ret rfl rfl ⟨v3, a3, by rw [eim], rfl, hf2.tr hf3, hk2.tr ⟨hoth 22 (by omega) (by omega) (by omega), hoth 23 (by omega) (by omega) (by omega), g24, g25⟩, ?_, ?_⟩)
        · rw [eim]
          obtain ⟨-, -, -, hlg2, -, hs2, hs3, hr2, hb2, hl2⟩ := hR2
          refine ⟨by show n - (k + 1 - c) ≤ 24; omega, hv3, hpr3, rz_cu_lg hlg2 hir (by omega) (fun h => ⟨(hq h).1.1, (hq h).2⟩), gli, by rw [g24]; exact hs2, by rw [g25]; exact hs3, ?_, ?_, ?_⟩
          · rw [hr3, hr2]; exact rz_succ r
          · rw [hb3, hb2]
            by_cases h0 : c = 0
            · rw [if_pos h0, if_pos h0]; exact rz_succ b
            · rw [if_neg h0, if_neg h0]; exact Int32.add_zero _
          · rw [hoth 26 (by omega) (by omega) (by omega)]; exact hl2
        · rw [eim]
          show n - (k + 1 - c) - rz_nx p (Int32.ofNat c) < n - p
          unfold rz_nx
          by_cases h0 : c = 0
          · subst h0
            rw [if_pos (show Int32.ofNat 0 = 0 from rfl)]; omega
          · have hne : ¬ Int32.ofNat c = 0 := fun q => h0 ((rz_eq_iff (k := 0) (by omega) (by omega)).mp q)
            rw [if_neg hne]
            omega
    have fin1 : ∀ (l3 l4 : Option Value) (v2 : Nat → Int32) (a2 : Nat → Nat → Int32) (lk2 : Nat), rz_mf v a v2 a2 → rz_ks v a v2 a2 → rz_RR v2 a2 R n r b lk2 → (∀ k, k < n → a2 26 k = rz_lv R n k) → rz_IM R n p 3 l = rz_IM R n p k lk2 → rz_E xs xl 98 72 [some (.ref 25), some (.int (Int32.ofNat p)), some (.int (Int32.ofNat (k + 1))), l3, l4] [] (rz_w v2 a2 g) 0 0 (fun q w' => ∃ (v' : Nat → Int32) (a' : Nat → Nat → Int32), q = .inl (some (.int (rz_im R n p r b l).1)) ∧ w' = rz_w v' a' g ∧ rz_mf v a v' a' ∧ rz_ks v a v' a' ∧ rz_RR v' a' (rz_im R n p r b l).2.1 (rz_im R n p r b l).2.2.1 (rz_im R n p r b l).2.2.2.1 (rz_im R n p r b l).2.2.2.2.1 (rz_im R n p r b l).2.2.2.2.2 ∧ (rz_im R n p r b l).2.2.1 - rz_nx p (rz_im R n p r b l).1 < n - p) := by
      intro l3 l4 v2 a2 lk2 h1 h2 h3 h4 h5
      refine ev_ps 3 rfl (ev_if (cd := .lt) rfl (fun h2 => next _ _ _ _ _ h1 (by assumption) h3 h4 h5) (fun h2 => ?_))
      exact absurd (show (-1 : Int32) < 0 by decide) (rc_lt_f h2)
    refine ev_ps 6 rfl ?_
    refine ev_call (av := [.ref 25, .int (Int32.ofNat p), .int (Int32.ofNat (k + 1)), .int (Int32.ofNat p), .int (Int32.ofNat 0), _]) rfl rfl rfl rfl ⟨Nat.le_of_ble_eq_true rfl, rfl⟩ ⟨Nat.le_of_ble_eq_true rfl, Nat.le_of_ble_eq_true rfl⟩ (m_agreeX (R1 := R) (R2 := R) _ (by omega) (by omega) (fun i hi => rz_pr_rw hR1.2.2.1 hR1.2.2.2.1 (by omega)) (fun i hi => absurd hi (Nat.not_lt_zero _))) ?_
    rintro _ _ ⟨⟨u2, hu2, hui2, rfl⟩, f1, f2, rfl⟩
    have hnd : u2 = 1 ↔ rz_nd R p (k + 1) (rz_S R n (p + (k + 1))) := hui2
    obtain ⟨hf2, hk2, hR2⟩ := hup (lk + 1)
    have hf3 : rz_mf v a (rz_up v1 26 (Int32.ofNat (lk + 1))) (rz_ua (rz_ua a1 27 f1) 28 f2) := (hf2.ua (by omega) _).ua (by omega) _
    have hR3 : rz_RR (rz_up v1 26 (Int32.ofNat (lk + 1))) (rz_ua (rz_ua a1 27 f1) 28 f2) R n r b (lk + 1) := (hR2.ua (by omega) _).ua (by omega) _
    refine ev_if (cd := .eq) rfl (fun h3 => ?_) (fun h3 => ?_)
    · have hnn : ¬ rz_nd R p (k + 1) (rz_S R n (p + (k + 1))) := fun q => absurd ((rc_eq_t h3).symm.trans (hnd.mpr q)) (by decide)
      refine ev_ps 2 rfl (ev_ic (cd := .le) rfl (fun h4 => ?_) (fun h4 => ?_))
      · have hk1 : ¬ 1 < k + 1 := by have := rn_le_t (k := 1) (by omega) (by omega) h4; omega
        exact fin1 _ _ _ _ _ hf3 hk2 hR3 h26 (hIM.trans (rz_IM_1 hir hnn hk1))
      have hk1 : 1 < k + 1 := rn_le_f (k := 1) (by omega) (by omega) h4
      refine ev_ps 4 rfl (ev_call (av := [_, _, _, _]) rfl rfl rfl rfl ⟨Nat.le_of_ble_eq_true rfl, rfl⟩ ⟨Nat.le_of_ble_eq_true rfl, Nat.le_of_ble_eq_true rfl⟩ (m_isFoundX (R := R) (l := lk + 1) _ hR3.2.2.2.2.1 hn hpm hR3.2.2.1 hR3.2.2.2.1 rfl) ?_)
      rintro _ _ ⟨j, a3, hj, hno, hht, rfl, hca, hrw, rfl⟩
      have hjx : rz_jx R p (k + 1) (rz_S R n (p + (k + 1))) = j := rz_fi_eq hno hht hj
      have hf4 : rz_mf v a (rz_up (rz_up v1 26 (Int32.ofNat (lk + 1))) 26 (Int32.ofNat (lk + 1 + rz_ct (rz_ch R p (k + 1)) (if j < 1920 then j + 1 else 1920)))) a3 := ⟨(hf3.up (by omega) _).1, fun i hi => (hca.1.1 i hi).trans (hf3.2 i hi)⟩
      have hk4 : rz_ks v a (rz_up (rz_up v1 26 (Int32.ofNat (lk + 1))) 26 (Int32.ofNat (lk + 1 + rz_ct (rz_ch R p (k + 1)) (if j < 1920 then j + 1 else 1920)))) a3 := ⟨hk2.1, hk2.2.1, hca.1.2.2.1.trans hk2.2.2.1, hca.1.2.2.2.1.trans hk2.2.2.2⟩
      have hR4 : rz_RR (rz_up (rz_up v1 26 (Int32.ofNat (lk + 1))) 26 (Int32.ofNat (lk + 1 + rz_ct (rz_ch R p (k + 1)) (if j < 1920 then j + 1 else 1920)))) a3 R n r b (lk + 1 + rz_ct (rz_ch R p (k + 1)) (if j < 1920 then j + 1 else 1920)) := ⟨hR3.1, hR3.2.1, fun i hi => (hca.rw (by omega) (rz_pr_rw hR3.2.2.1 hR3.2.2.2.1 hi)).2, hR3.2.2.2.1, hca.1.2.2.2.2, by rw [hca.1.2.2.1]; exact hR3.2.2.2.2.2.1, by rw [hca.1.2.2.2.1]; exact hR3.2.2.2.2.2.2.1, hR3.2.2.2.2.2.2.2.1, hR3.2.2.2.2.2.2.2.2.1, rfl⟩
      by_cases hjl : j < 1920
      · rw [if_pos hjl] at hf4 hk4 hR4 ⊢
        rw [if_pos hjl]
        refine ev_if (cd := .eq) rfl (fun h5 => absurd (rc_eq_t h5) (by decide)) (fun h5 => ?_)
        refine ev_ps 2 rfl (fin 1 (rz_cq j) _ _ _ _ _ (by omega) hf4 hk4 hR4 (fun _ => ⟨hrw hjl, by show j / 192 ≤ 9; omega⟩) ?_)
        unfold rz_im
        rw [hIM, rz_IM_f hir hnn hk1 hjl hjx]
        rfl
      · rw [if_neg hjl] at hf4 hk4 hR4 ⊢
        rw [if_neg hjl]
        refine ev_if (cd := .eq) rfl (fun h5 => ?_) (fun h5 => absurd rfl (rc_eq_f h5))
        refine fin1 _ _ _ _ _ hf4 hk4 hR4 (fun i hi => ?_) (hIM.trans (rz_IM_g hir hnn hk1 hjl hjx))
        rw [hca.2]; exact h26 i hi
    · have hnn : rz_nd R p (k + 1) (rz_S R n (p + (k + 1))) := hnd.mp (hu2.resolve_left (rc_eq_f h3))
      refine ev_ps 2 rfl (fin 0 (0, 0, 0, 0) _ _ _ _ _ (by omega) hf3 hk2 hR3 (fun q => absurd rfl q) ?_)
      unfold rz_im
      rw [hIM, rz_IM_nd hir hnn]
      rfl
theorem rz_IP_step {d r b : Nat} (h : p < n) : rz_IP (d + 1) R n p r b l = rz_IP d (rz_im R n p r b l).2.1 (rz_im R n p r b l).2.2.1 (rz_nx p (rz_im R n p r b l).1) (rz_im R n p r b l).2.2.2.1 (rz_im R n p r b l).2.2.2.2.1 (rz_im R n p r b l).2.2.2.2.2 := by
  rw [rz_IP, if_pos h]
theorem m_improveX {r b : Nat} (hR : rz_RR v a R n r b l) : rz_C xs xl 97 [.ref 25] (rz_w v a g) (fun q w' => ∃ (v' : Nat → Int32) (a' : Nat → Nat → Int32), q = .inl (some (.int (Int32.ofNat n - Int32.ofNat (rz_IP 24 R n 0 r b l).2.1))) ∧ w' = rz_w v' a' g ∧ rz_mf v a v' a' ∧ rz_ks v a v' a' ∧ rz_RR v' a' (rz_IP 24 R n 0 r b l).1 (rz_IP 24 R n 0 r b l).2.1 (rz_IP 24 R n 0 r b l).2.2.1 (rz_IP 24 R n 0 r b l).2.2.2.1 (rz_IP 24 R n 0 r b l).2.2.2.2) := by
  refine ev_ps 3 rfl (ev_w (w2 := rz_w (rz_up v 20 0) a g) rfl ?_)
  refine ev_ps 5 rfl ?_
  refine ev_loop (α := Nat × Option Value × (Nat → Int32) × (Nat → Nat → Int32) × (Nat → rz_Q) × Nat × Nat × Nat × Nat × Nat) (fun t => t.2.2.2.2.2.1 - t.1) (fun t => rz_mf v a t.2.2.1 t.2.2.2.1 ∧ rz_ks v a t.2.2.1 t.2.2.2.1 ∧ rz_RR t.2.2.1 t.2.2.2.1 t.2.2.2.2.1 t.2.2.2.2.2.1 t.2.2.2.2.2.2.1 t.2.2.2.2.2.2.2.1 t.2.2.2.2.2.2.2.2.1 ∧ t.1 ≤ 24 ∧ t.2.2.2.2.2.1 - t.1 ≤ t.2.2.2.2.2.2.2.2.2 ∧ rz_IP 24 R n 0 r b l = rz_IP t.2.2.2.2.2.2.2.2.2 t.2.2.2.2.1 t.2.2.2.2.2.1 t.1 t.2.2.2.2.2.2.1 t.2.2.2.2.2.2.2.1 t.2.2.2.2.2.2.2.2.1) (fun t => [some (.ref 25), some (.int (v 21)), some (.int (Int32.ofNat t.1)), t.2.1]) (fun _ => []) (fun t => rz_w t.2.2.1 t.2.2.2.1 g) ?_ (0, none, rz_up v 20 0, a, R, n, r, b, l, 24) ⟨rz_mf.rf.up (by omega) _, rz_ks.rf, hR, Nat.zero_le _, by show n - 0 ≤ 24; have := hR.1; omega, rfl⟩
  rintro ⟨p, l3, v1, a1, R1, n1, r1, b1, l1, d⟩ ⟨hf, hk, hR1, hp, hd, hIP⟩ ih
  dsimp only at hf hk hR1 hp hd hIP ih ⊢
  have hn1 := hR1.1
  refine ev_ps 3 rfl (ev_ic (cd := .ge) rfl (fun h => ?_) (fun h => ?_))
  · rw [hR1.2.1] at h
    have hnp : n1 ≤ p := rn_ge_t (by omega) (by omega) h
    rw [rz_IP_end hnp] at hIP
    refine ev_ps 4 rfl (ev_ret rfl rfl ⟨v1, a1, ?_, rfl, hf, hk, ?_⟩)
    · rw [hIP, hR.2.1, hR1.2.1]
    · rw [hIP]; exact hR1
  · rw [hR1.2.1] at h
    have hpn : p < n1 := rn_ge_f (by omega) (by omega) h
    obtain ⟨d, rfl⟩ : ∃ e, d = e + 1 := ⟨d - 1, by omega⟩
    replace hIP := hIP.trans (rz_IP_step hpn)
    refine ev_ps 2 rfl (ev_call (av := [_, _]) rfl rfl rfl rfl ⟨Nat.le_of_ble_eq_true rfl, rfl⟩ ⟨Nat.le_of_ble_eq_true rfl, Nat.le_of_ble_eq_true rfl⟩ (m_improvedX hR1 hpn) ?_)
    rintro _ _ ⟨v2, a2, rfl, rfl, hf2, hk2, hR2, hmeas⟩
    have hor : (rz_im R1 n1 p r1 b1 l1).1 = -1 ∨ (rz_im R1 n1 p r1 b1 l1).1 = 0 ∨ (rz_im R1 n1 p r1 b1 l1).1 = 1 := by
      unfold rz_im
      rcases rz_IM R1 n1 p 3 l1 with ⟨_ | ⟨m, _ | j⟩, l⟩
      · exact Or.inl rfl
      · exact Or.inr (Or.inl rfl)
      · exact Or.inr (Or.inr rfl)
    generalize rz_im R1 n1 p r1 b1 l1 = im at hIP hR2 hmeas hor ⊢
    obtain ⟨u, R2, n2, r2, b2, l2⟩ := im
    dsimp only at hIP hR2 hmeas hor ⊢
    have next : ∀ (p2 : Nat) (x : Int32) (l3 : Option Value), x = Int32.ofNat p2 → p2 = rz_nx p u → p2 ≤ 24 → rz_E xs xl 97 39 [some (.ref 25), some (.int (v 21)), some (.int (Int32.ofNat p)), l3] [.int x] (rz_w v2 a2 g) 0 0 (fun q w' => ∃ (v' : Nat → Int32) (a' : Nat → Nat → Int32), q = .inl (some (.int (Int32.ofNat n - Int32.ofNat (rz_IP 24 R n 0 r b l).2.1))) ∧ w' = rz_w v' a' g ∧ rz_mf v a v' a' ∧ rz_ks v a v' a' ∧ rz_RR v' a' (rz_IP 24 R n 0 r b l).1 (rz_IP 24 R n 0 r b l).2.1 (rz_IP 24 R n 0 r b l).2.2.1 (rz_IP 24 R n 0 r b l).2.2.2.1 (rz_IP 24 R n 0 r b l).2.2.2.2) := by
      intro p2 x l3 hx hp2 hle
      subst hx
      subst hp2
      have h9 := ih (rz_nx p u, l3, v2, a2, R2, n2, r2, b2, l2, d) ⟨hf.tr hf2, hk.tr hk2, hR2, hle, by show n2 - rz_nx p u ≤ d; omega, hIP⟩ hmeas
      exact ev_ps 2 rfl h9
    rcases hor with rfl | rfl | rfl
    · refine ev_ps 2 rfl (ev_if (cd := .ge) rfl (fun h2 => absurd (rc_ge_t h2) (by decide)) (fun h2 => ?_))
      exact ev_ps 4 rfl (next (p + 1) _ _ (rz_succ p) rfl (by omega))
    · refine ev_ps 2 rfl (ev_if (cd := .ge) rfl (fun h2 => ?_) (fun h2 => absurd (by decide) (rc_ge_f h2)))
      exact ev_ps 3 rfl (next p _ _ (Int32.add_zero _) rfl (by omega))
    · refine ev_ps 2 rfl (ev_if (cd := .ge) rfl (fun h2 => ?_) (fun h2 => absurd (by decide) (rc_ge_f h2)))
      exact ev_ps 3 rfl (next (p + 1) _ _ (rz_succ p) rfl (by omega))
end RZX4
