/-! the class, exactly: improving -/
section RZY5
variable {xs : Nat → Int32} {xl : Nat} {v : Nat → Int32} {a : Nat → Nat → Int32} {g : Nat → Int64} {R : Nat → rz_Q} {n : Nat}
theorem y_imprPutForRow {p m b r0 b0 : Nat} {q : rz_Q} (x : Int32) (hx : (b = 0 ∧ x = -1) ∨ (b = 1 ∧ x = rz_pk q ∧ rz_lg q ∧ q.1 ≤ 9)) (hbm : b ≤ m) (hm : m ≤ 3) (hv : v 0 = Int32.ofNat n) (hn : n ≤ 24) (hir : rz_ir R n p m) (hpc : rz_pc a R n) (hl : rz_lgs R n) (h13 : v 13 = Int32.ofNat r0) (h14 : v 14 = Int32.ofNat b0) : rz_C xs xl 44 [.ref 13, .ref 1, .int (Int32.ofNat p), .int (Int32.ofNat m), .int x] (rz_w v a g) (fun r w' => r = .inl (some (.int (Int32.ofNat b))) ∧ ∃ f f2 : Nat → Int32, w' = rz_w (rz_up (rz_up (rz_up v 13 (Int32.ofNat (r0 + 1))) 14 (Int32.ofNat (if b = 0 then b0 + 1 else b0))) 0 (Int32.ofNat (n - (m - b)))) (rz_ua (rz_ua a 0 f) 6 f2) g ∧ (∀ k, k < n - (m - b) → f k = rz_pk (rz_cu R p m b q k)) ∧ ∀ k, k ≤ n - (m - b) → f2 k = rz_S (rz_cu R p m b q) (n - (m - b)) k) := by
  refine ev_ps 6 rfl (ev_w (w2 := rz_w (rz_up (rz_up v 13 (Int32.ofNat (r0 + 1))) 14 (v 14)) a g) (by rw [← rz_succ r0, ← h13]; rfl) ?_)
  have hq2 : b ≠ 0 → rz_lg q ∧ q.1 ≤ 9 := fun h => hx.elim (fun z => absurd z.1 h) (fun z => z.2.2)
  have main : ∀ y : Int32, y = Int32.ofNat (if b = 0 then b0 + 1 else b0) → rz_E xs xl 44 26 [some (.ref 13), some (.ref 1), some (.int (Int32.ofNat p)), some (.int (Int32.ofNat m)), some (.int x), none] [] (rz_w (rz_up (rz_up v 13 (Int32.ofNat (r0 + 1))) 14 y) a g) 0 0 (fun r w' => r = .inl (some (.int (Int32.ofNat b))) ∧ ∃ f f2 : Nat → Int32, w' = rz_w (rz_up (rz_up (rz_up v 13 (Int32.ofNat (r0 + 1))) 14 (Int32.ofNat (if b = 0 then b0 + 1 else b0))) 0 (Int32.ofNat (n - (m - b)))) (rz_ua (rz_ua a 0 f) 6 f2) g ∧ (∀ k, k < n - (m - b) → f k = rz_pk (rz_cu R p m b q k)) ∧ ∀ k, k ≤ n - (m - b) → f2 k = rz_S (rz_cu R p m b q) (n - (m - b)) k) := by
    intro y hy
    subst hy
    refine ev_ps 4 rfl (ev_call (av := [_, _, _, _]) rfl rfl rfl rfl ⟨Nat.le_of_ble_eq_true rfl, rfl⟩ ⟨Nat.le_of_ble_eq_true rfl, Nat.le_of_ble_eq_true rfl⟩ (y_putForRow (v := rz_up (rz_up v 13 (Int32.ofNat (r0 + 1))) 14 (Int32.ofNat (if b = 0 then b0 + 1 else b0))) (q := q) x hx hbm hm hv hn hir hpc hl) ?_)
    rintro _ _ ⟨rfl, f, rfl, hf⟩
    refine ev_ps 4 rfl (ev_call (av := [_, _]) rfl rfl rfl rfl ⟨Nat.le_of_ble_eq_true rfl, rfl⟩ ⟨Nat.le_of_ble_eq_true rfl, Nat.le_of_ble_eq_true rfl⟩ (z_findFor_14 (v := rz_up (rz_up (rz_up v 13 (Int32.ofNat (r0 + 1))) 14 (Int32.ofNat (if b = 0 then b0 + 1 else b0))) 0 (Int32.ofNat (n - (m - b)))) (a := rz_ua a 0 f) (R := rz_cu R p m b q) (n := n - (m - b)) rfl (by omega) hf (rz_cu_lg hl hir hbm hq2)) ?_)
    rintro _ _ ⟨rfl, f2, rfl, hf2⟩
    exact ev_ps 1 rfl (ev_ret rfl rfl ⟨rfl, f, f2, rfl, hf, hf2⟩)
  refine ev_ps 2 rfl (ev_ic (cd := .ne) rfl (fun h => main _ ?_) (fun h => ?_))
  · have hb1 : b = 1 := hx.elim (fun z => absurd z.2 (rc_ne_t h)) (fun z => z.1)
    rw [hb1, if_neg (by decide)]; exact h14
  · have hb0 : b = 0 := hx.elim (fun z => z.1) (fun z => absurd (z.2.1.symm.trans (rc_ne_f h)) (rz_pk_ne z.2.2.1).1)
    refine ev_ps 6 rfl (ev_w (w2 := rz_w (rz_up (rz_up v 13 (Int32.ofNat (r0 + 1))) 14 (v 14 + Int32.ofInt 1)) a g) rfl (main _ ?_))
    rw [hb0, if_pos rfl, h14]; exact rz_succ b0
/-- the class holds this program and these counts -/
def rz_CC (v : Nat → Int32) (a : Nat → Nat → Int32) (R : Nat → rz_Q) (n r b l : Nat) : Prop := n ≤ 24 ∧ v 0 = Int32.ofNat n ∧ rz_pc a R n ∧ rz_lgs R n ∧ v 13 = Int32.ofNat r ∧ v 14 = Int32.ofNat b ∧ v 15 = Int32.ofNat l ∧ ∃ L, L < 4096 ∧ v 8 = Int32.ofNat L
/-- its machine is as it was -/
def rz_kc (v : Nat → Int32) (a : Nat → Nat → Int32) (v' : Nat → Int32) (a' : Nat → Nat → Int32) : Prop := v' 1 = v 1 ∧ v' 2 = v 2 ∧ v' 3 = v 3 ∧ v' 4 = v 4 ∧ a' 1 = a 1 ∧ a' 2 = a 2
theorem rz_kc.rf : rz_kc v a v a := ⟨rfl, rfl, rfl, rfl, rfl, rfl⟩
theorem rz_kc.tr {v1 v2 : Nat → Int32} {a1 a2 : Nat → Nat → Int32} (h : rz_kc v a v1 a1) (h2 : rz_kc v1 a1 v2 a2) : rz_kc v a v2 a2 := ⟨h2.1.trans h.1, h2.2.1.trans h.2.1, h2.2.2.1.trans h.2.2.1, h2.2.2.2.1.trans h.2.2.2.1, h2.2.2.2.2.1.trans h.2.2.2.2.1, h2.2.2.2.2.2.trans h.2.2.2.2.2⟩
theorem rz_kc.up {v1 : Nat → Int32} {a1 : Nat → Nat → Int32} {k : Nat} (h : rz_kc v a v1 a1) (hk : k = 0 ∨ 5 ≤ k) (x : Int32) : rz_kc v a (rz_up v1 k x) a1 := by
  have e : ∀ j, 1 ≤ j → j ≤ 4 → rz_up v1 k x j = v1 j := fun j h1 h2 => if_neg (by omega)
  unfold rz_kc
  rw [e 1 (by omega) (by omega), e 2 (by omega) (by omega), e 3 (by omega) (by omega), e 4 (by omega) (by omega)]
  exact h
theorem rz_kc.ua {v1 : Nat → Int32} {a1 : Nat → Nat → Int32} {k : Nat} (h : rz_kc v a v1 a1) (hk : k = 0 ∨ 3 ≤ k) (f : Nat → Int32) : rz_kc v a v1 (rz_ua a1 k f) := by
  have e : ∀ j, 1 ≤ j → j ≤ 2 → rz_ua a1 k f j = a1 j := fun j h1 h2 => if_neg (by omega)
  unfold rz_kc
  rw [e 1 (by omega) (by omega), e 2 (by omega) (by omega)]
  exact h
theorem rz_S14 {R : Nat → rz_Q} {n k : Nat} (hl : rz_lgs R n) : ∃ S, S < 16 ∧ rz_S R n k = Int32.ofNat S := by
  obtain ⟨i, hi, e, -⟩ := rz_14 (rz_lv14 hl k)
  exact ⟨i, hi, e⟩
theorem y_improveAt {p r b l : Nat} (hR : rz_CC v a R n r b l) (h6 : ∀ k, k ≤ n → a 6 k = rz_S R n k) (hp : p < n) : rz_C xs xl 22 [.ref 13, .ref 1, .int (Int32.ofNat p)] (rz_w v a g) (fun q w' => ∃ (v' : Nat → Int32) (a' : Nat → Nat → Int32), q = .inl (some (.int (Int32.ofNat (rz_nx p (rz_im R n p r b l).1)))) ∧ w' = rz_w v' a' g ∧ rz_cf v a v' a' ∧ rz_kc v a v' a' ∧ rz_CC v' a' (rz_im R n p r b l).2.1 (rz_im R n p r b l).2.2.1 (rz_im R n p r b l).2.2.2.1 (rz_im R n p r b l).2.2.2.2.1 (rz_im R n p r b l).2.2.2.2.2 ∧ ∀ k, k ≤ (rz_im R n p r b l).2.2.1 → a' 6 k = rz_S (rz_im R n p r b l).2.1 (rz_im R n p r b l).2.2.1 k) := by
  have hn := hR.1
  refine ev_ps 2 rfl ?_
  refine ev_loop (α := Nat × Option Value × Option Value × (Nat → Int32) × (Nat → Nat → Int32) × Nat) (fun q => q.1) (fun t => t.1 ≤ 3 ∧ rz_cf v a t.2.2.2.1 t.2.2.2.2.1 ∧ rz_kc v a t.2.2.2.1 t.2.2.2.2.1 ∧ rz_CC t.2.2.2.1 t.2.2.2.2.1 R n r b t.2.2.2.2.2 ∧ (∀ k, k ≤ n → t.2.2.2.2.1 6 k = rz_S R n k) ∧ rz_IM R n p 3 l = rz_IM R n p t.1 t.2.2.2.2.2) (fun q => [some (.ref 13), some (.ref 1), some (.int (Int32.ofNat p)), some (.int (Int32.ofNat q.1)), q.2.1, q.2.2.1]) (fun _ => []) (fun q => rz_w q.2.2.2.1 q.2.2.2.2.1 g) ?_ (3, none, none, v, a, l) ⟨Nat.le_refl _, rz_cf.rf, rz_kc.rf, hR, h6, rfl⟩
  rintro ⟨mm, t4, t5, v1, a1, lk⟩ ⟨hm, hf, hk, hR1, h61, hIM⟩ ih
  dsimp only at hm hf hk hR1 h61 hIM ih ⊢
  obtain ⟨-, hv1, hpc1, hl1, h13, h14, h15, L1, hL1, h8⟩ := hR1
  refine ev_ps 2 rfl (ev_ic (cd := .lt) rfl (fun h => ?_) (fun h => ?_))
  · have hm0 : mm = 0 := by have := rn_lt_t (k := 1) (by omega) (by omega) h; omega
    subst hm0
    have eim : rz_im R n p r b l = (-1, R, n, r, b, lk) := by unfold rz_im; rw [hIM]; rfl
    refine ev_ps 3 rfl (ev_ret rfl rfl ⟨v1, a1, ?_, rfl, hf, hk, by rw [eim]; exact ⟨hn, hv1, hpc1, hl1, h13, h14, h15, L1, hL1, h8⟩, by rw [eim]; exact h61⟩)
    rw [eim]
    show _ = Sum.inl (some (Value.int (Int32.ofNat (p + 1))))
    rw [← rz_succ p]; rfl
  · obtain ⟨k, rfl⟩ : ∃ k, mm = k + 1 := ⟨mm - 1, by have := rn_lt_f (k := 1) (by omega) (by omega) h; omega⟩
    have next : ∀ (t4 t5 : Option Value) (v2 : Nat → Int32) (a2 : Nat → Nat → Int32) (lk2 : Nat), rz_cf v a v2 a2 → rz_kc v a v2 a2 → rz_CC v2 a2 R n r b lk2 → (∀ k, k ≤ n → a2 6 k = rz_S R n k) → rz_IM R n p 3 l = rz_IM R n p k lk2 → rz_E xs xl 22 90 [some (.ref 13), some (.ref 1), some (.int (Int32.ofNat p)), some (.int (Int32.ofNat (k + 1))), t4, t5] [] (rz_w v2 a2 g) 0 0 (fun q w' => ∃ (v' : Nat → Int32) (a' : Nat → Nat → Int32), q = .inl (some (.int (Int32.ofNat (rz_nx p (rz_im R n p r b l).1)))) ∧ w' = rz_w v' a' g ∧ rz_cf v a v' a' ∧ rz_kc v a v' a' ∧ rz_CC v' a' (rz_im R n p r b l).2.1 (rz_im R n p r b l).2.2.1 (rz_im R n p r b l).2.2.2.1 (rz_im R n p r b l).2.2.2.2.1 (rz_im R n p r b l).2.2.2.2.2 ∧ ∀ k, k ≤ (rz_im R n p r b l).2.2.1 → a' 6 k = rz_S (rz_im R n p r b l).2.1 (rz_im R n p r b l).2.2.1 k) := by
      intro t4 t5 v2 a2 lk2 hf2 hk2 hR2 h62 hIM2
      have h9 := ih (k, t4, t5, v2, a2, lk2) ⟨by show k ≤ 3; omega, hf2, hk2, hR2, h62, hIM2⟩ (by show k < k + 1; omega)
      dsimp only at h9
      rw [show Int32.ofNat k = Int32.ofNat (k + 1) + Int32.ofInt (-1) from by
        rw [← rz_succ k]
        exact (Int32.add_sub_cancel (Int32.ofNat k) 1).symm.trans (Int32.sub_eq_add_neg _ _)] at h9
      exact ev_ps 2 rfl h9
    refine ev_ps 3 rfl (ev_call (av := [_, _, _]) rfl rfl rfl rfl ⟨Nat.le_of_ble_eq_true rfl, rfl⟩ ⟨Nat.le_of_ble_eq_true rfl, Nat.le_of_ble_eq_true rfl⟩ (y_hasRow hv1 hn (by omega) hm (by omega) hpc1 hl1) ?_)
    rintro _ _ ⟨⟨u, hu, hui, rfl⟩, rfl⟩
    refine ev_if (cd := .eq) rfl (fun h1 => ?_) (fun h1 => ?_)
    · have hir : ¬ rz_ir R n p (k + 1) := fun q => absurd ((rc_eq_t h1).symm.trans (hui.mpr q)) (by decide)
      exact next _ _ _ _ _ hf hk ⟨hn, hv1, hpc1, hl1, h13, h14, h15, L1, hL1, h8⟩ h61 (hIM.trans (rz_IM_no hir))
    have hir : rz_ir R n p (k + 1) := hui.mp (hu.resolve_left (rc_eq_f h1))
    have hpm := hir.1
    refine ev_ps 5 rfl (ev_call (av := [_, _, _, _]) rfl rfl rfl rfl ⟨Nat.le_of_ble_eq_true rfl, rfl⟩ ⟨Nat.le_of_ble_eq_true rfl, Nat.le_of_ble_eq_true rfl⟩ (y_takeFrom_21 (R := R) hm hpm hn hpc1 hl1 hir.2.1) ?_)
    rintro _ _ ⟨rfl, f, rfl, hrc⟩
    refine ev_ps 7 rfl ?_
    refine ev_call (av := [.ref 14, .int (Int32.ofNat (p + (k + 1)))]) rfl (by rw [← rz_add p (k + 1)]; rfl) rfl rfl ⟨Nat.le_of_ble_eq_true rfl, rfl⟩ ⟨Nat.le_of_ble_eq_true rfl, Nat.le_of_ble_eq_true rfl⟩ (z_before_14 (by omega)) ?_
    rintro _ _ ⟨rfl, rfl⟩
    rw [show rz_ua a1 9 f 6 (p + (k + 1)) = rz_S R n (p + (k + 1)) from h61 _ (by omega)]
    have hz := rz_S14 (k := p + (k + 1)) hl1
    refine ev_call (av := [_]) rfl rfl rfl rfl ⟨Nat.le_of_ble_eq_true rfl, rfl⟩ ⟨Nat.le_of_ble_eq_true rfl, Nat.le_of_ble_eq_true rfl⟩ (y_maskOf _) ?_
    rintro _ _ ⟨rfl, rfl⟩
    refine ev_ps 3 rfl (ev_call (av := [_, _]) rfl rfl rfl rfl ⟨Nat.le_of_ble_eq_true rfl, rfl⟩ ⟨Nat.le_of_ble_eq_true rfl, Nat.le_of_ble_eq_true rfl⟩ (y_nothingDoes (v := rz_up v1 11 (Int32.ofNat (k + 1))) (a := rz_ua a1 9 f) (R := R) (p := p) hz rfl hm h8 hL1 h15 hrc) ?_)
    rintro _ _ ⟨⟨u4, hu4, hui4, rfl⟩, L2, hL2, rfl⟩
    have fin : ∀ (c : Nat) (q : rz_Q) (t : Int32) (v2 : Nat → Int32) (a2 : Nat → Nat → Int32) (lk2 : Nat), rz_cf v a v2 a2 → rz_kc v a v2 a2 → rz_CC v2 a2 R n r b lk2 → ((c = 0 ∧ t = -1) ∨ (c = 1 ∧ t = rz_pk q ∧ rz_lg q ∧ q.1 ≤ 9)) → rz_im R n p r b l = (Int32.ofNat c, rz_cu R p (k + 1) c q, n - (k + 1 - c), r + 1, (if c = 0 then b + 1 else b), lk2) → rz_E xs xl 22 71 [some (.ref 13), some (.ref 1), some (.int (Int32.ofNat p)), some (.int (Int32.ofNat (k + 1))), some (.int t), some (.int (rz_mo (rz_S R n (p + (k + 1))) 4))] [] (rz_w v2 a2 g) 0 0 (fun q w' => ∃ (v' : Nat → Int32) (a' : Nat → Nat → Int32), q = .inl (some (.int (Int32.ofNat (rz_nx p (rz_im R n p r b l).1)))) ∧ w' = rz_w v' a' g ∧ rz_cf v a v' a' ∧ rz_kc v a v' a' ∧ rz_CC v' a' (rz_im R n p r b l).2.1 (rz_im R n p r b l).2.2.1 (rz_im R n p r b l).2.2.2.1 (rz_im R n p r b l).2.2.2.2.1 (rz_im R n p r b l).2.2.2.2.2 ∧ ∀ k, k ≤ (rz_im R n p r b l).2.2.1 → a' 6 k = rz_S (rz_im R n p r b l).2.1 (rz_im R n p r b l).2.2.1 k) := by
      intro c q t v2 a2 lk2 hf2 hk2 hR2 hq eim
      obtain ⟨-, hv2, hpc2, hl2, h132, h142, h152, L2, hL2, h82⟩ := hR2
      have hc1 : c ≤ 1 := hq.elim (fun z => by omega) (fun z => by omega)
      refine ev_ps 2 rfl (ev_ic (cd := .eq) rfl (fun h => ?_) (fun h => ?_))
      · have ht := rc_eq_t h
        exact hq.elim (fun z => absurd (z.2.symm.trans ht) (show ¬ (-1 : Int32) = -2 by decide)) (fun z => absurd (z.2.1.symm.trans ht) (rz_pk_ne z.2.2.1).2)
      refine ev_ps 6 rfl (ev_call (av := [_, _, _, _, _]) rfl rfl rfl rfl ⟨Nat.le_of_ble_eq_true rfl, rfl⟩ ⟨Nat.le_of_ble_eq_true rfl, Nat.le_of_ble_eq_true rfl⟩ (y_imprPutForRow (q := q) t hq (by omega) hm hv2 hn hir hpc2 hl2 h132 h142) ?_)
      rintro _ _ ⟨rfl, f3, f4, rfl, hf3, hf4⟩
      refine ev_ps 1 rfl (ev_ret rfl rfl ⟨_, _, ?_, rfl, (((((hf2.up (by decide) _).up (by decide) _).up (by decide) _).ua (by decide) f3).ua (by decide) f4), (((((hk2.up (by decide) _).up (by decide) _).up (by decide) _).ua (by decide) f3).ua (by decide) f4), ?_, ?_⟩)
      · rw [eim]
        show _ = Sum.inl (some (Value.int (Int32.ofNat (rz_nx p (Int32.ofNat c)))))
        have e : rz_nx p (Int32.ofNat c) = p + c := by
          unfold rz_nx
          rcases (show c = 0 ∨ c = 1 by omega) with rfl | rfl
          · rfl
          · rfl
        rw [e, ← rz_add]
      · rw [eim]
        refine ⟨by show n - (k + 1 - c) ≤ 24; omega, rfl, hf3, rz_cu_lg hl2 hir (by omega) (fun h => hq.elim (fun z => absurd z.1 h) (fun z => z.2.2)), rfl, rfl, h152, L2, hL2, h82⟩
      · rw [eim]; exact hf4
    have skip : ∀ (t : Int32) (v2 : Nat → Int32) (a2 : Nat → Nat → Int32) (lk2 : Nat), t = -2 → rz_cf v a v2 a2 → rz_kc v a v2 a2 → rz_CC v2 a2 R n r b lk2 → (∀ k, k ≤ n → a2 6 k = rz_S R n k) → rz_IM R n p 3 l = rz_IM R n p k lk2 → rz_E xs xl 22 71 [some (.ref 13), some (.ref 1), some (.int (Int32.ofNat p)), some (.int (Int32.ofNat (k + 1))), some (.int t), some (.int (rz_mo (rz_S R n (p + (k + 1))) 4))] [] (rz_w v2 a2 g) 0 0 (fun q w' => ∃ (v' : Nat → Int32) (a' : Nat → Nat → Int32), q = .inl (some (.int (Int32.ofNat (rz_nx p (rz_im R n p r b l).1)))) ∧ w' = rz_w v' a' g ∧ rz_cf v a v' a' ∧ rz_kc v a v' a' ∧ rz_CC v' a' (rz_im R n p r b l).2.1 (rz_im R n p r b l).2.2.1 (rz_im R n p r b l).2.2.2.1 (rz_im R n p r b l).2.2.2.2.1 (rz_im R n p r b l).2.2.2.2.2 ∧ ∀ k, k ≤ (rz_im R n p r b l).2.2.1 → a' 6 k = rz_S (rz_im R n p r b l).2.1 (rz_im R n p r b l).2.2.1 k) := by
      intro t v2 a2 lk2 ht h1 h2 h3 h4 h5
      subst ht
      refine ev_ps 2 rfl (ev_ic (cd := .eq) rfl (fun h => next _ _ _ _ _ h1 h2 h3 h4 h5) (fun h => absurd rfl (rc_eq_f h)))
    have hf3 : rz_cf v a (rz_up (rz_up (rz_up (rz_up v1 11 (Int32.ofNat (k + 1))) 12 0) 15 (Int32.ofNat (lk + 1))) 8 (Int32.ofNat L2)) (rz_ua a1 9 f) := ((((hf.up (by decide) _).up (by decide) _).up (by decide) _).up (by decide) _).ua (by decide) f
    have hk3 : rz_kc v a (rz_up (rz_up (rz_up (rz_up v1 11 (Int32.ofNat (k + 1))) 12 0) 15 (Int32.ofNat (lk + 1))) 8 (Int32.ofNat L2)) (rz_ua a1 9 f) := ((((hk.up (by decide) _).up (by decide) _).up (by decide) _).up (by decide) _).ua (by decide) f
    have hR3 : rz_CC (rz_up (rz_up (rz_up (rz_up v1 11 (Int32.ofNat (k + 1))) 12 0) 15 (Int32.ofNat (lk + 1))) 8 (Int32.ofNat L2)) (rz_ua a1 9 f) R n r b (lk + 1) := ⟨hn, hv1, hpc1, hl1, h13, h14, rfl, L2, hL2, rfl⟩
    refine ev_if (cd := .ne) rfl (fun h2 => ?_) (fun h2 => ?_)
    · have hnd : rz_nd R p (k + 1) (rz_S R n (p + (k + 1))) := hui4.mp (hu4.resolve_left (rc_ne_t h2))
      refine fin 0 (0, 0, 0, 0) _ _ _ _ hf3 hk3 hR3 (Or.inl ⟨rfl, rfl⟩) ?_
      unfold rz_im
      rw [hIM, rz_IM_nd hir hnd]
      rfl
    · have hnn : ¬ rz_nd R p (k + 1) (rz_S R n (p + (k + 1))) := fun q => absurd ((rc_ne_f h2).symm.trans (hui4.mpr q)) (by decide)
      refine ev_ps 2 rfl (ev_ic (cd := .le) rfl (fun h3 => ?_) (fun h3 => ?_))
      · have hk1 : ¬ 1 < k + 1 := by have := rn_le_t (k := 1) (by omega) (by omega) h3; omega
        exact ev_ps 2 rfl (skip _ _ _ _ rfl hf3 hk3 hR3 h61 (hIM.trans (rz_IM_1 hir hnn hk1)))
      · have hk1 : 1 < k + 1 := rn_le_f (k := 1) (by omega) (by omega) h3
        refine ev_ps 2 rfl (ev_call (av := [_, _]) rfl rfl rfl rfl ⟨Nat.le_of_ble_eq_true rfl, rfl⟩ ⟨Nat.le_of_ble_eq_true rfl, Nat.le_of_ble_eq_true rfl⟩ (y_firstInstruction (v := rz_up (rz_up (rz_up (rz_up v1 11 (Int32.ofNat (k + 1))) 12 0) 15 (Int32.ofNat (lk + 1))) 8 (Int32.ofNat L2)) (a := rz_ua a1 9 f) (R := R) (p := p) (m := k + 1) (l := lk + 1) hz rfl hm rfl hL2 rfl hrc) ?_)
        rintro _ _ ⟨j, L3, c3, f5, hj, hno, hht, rfl, hL3, rfl⟩
        have hjx : rz_jx R p (k + 1) (rz_S R n (p + (k + 1))) = j := rz_fi_eq hno hht hj
        have hf4 := ((((hf3.up (k := 12) (by decide) c3).up (k := 15) (by decide) (Int32.ofNat (lk + 1 + rz_ct (rz_ch R p (k + 1)) (if j < 1920 then j + 1 else 1920)))).up (k := 8) (by decide) (Int32.ofNat L3)).ua (k := 10) (by decide) f5)
        have hk4 := ((((hk3.up (k := 12) (by decide) c3).up (k := 15) (by decide) (Int32.ofNat (lk + 1 + rz_ct (rz_ch R p (k + 1)) (if j < 1920 then j + 1 else 1920)))).up (k := 8) (by decide) (Int32.ofNat L3)).ua (k := 10) (by decide) f5)
        by_cases hjl : j < 1920
        · rw [if_pos hjl] at hf4 hk4
          rw [if_pos hjl, if_pos hjl]
          refine ev_ps 2 rfl (fin 1 (rz_cq j) _ _ _ _ hf4 hk4 ⟨hn, hv1, hpc1, hl1, h13, h14, rfl, L3, hL3, rfl⟩ (Or.inr ⟨rfl, rfl, rz_ch_lg hjl (hht hjl).1, by show j / 192 ≤ 9; omega⟩) ?_)
          unfold rz_im
          rw [hIM, rz_IM_f hir hnn hk1 hjl hjx]
          rfl
        · rw [if_neg hjl] at hf4 hk4
          rw [if_neg hjl, if_neg hjl]
          exact ev_ps 2 rfl (skip _ _ _ _ rfl hf4 hk4 ⟨hn, hv1, hpc1, hl1, h13, h14, rfl, L3, hL3, rfl⟩ h61 (hIM.trans (rz_IM_g hir hnn hk1 hjl hjx)))
theorem y_improveProgram {r b l : Nat} (hR : rz_CC v a R n r b l) : rz_C xs xl 9 [.ref 13, .ref 1] (rz_w v a g) (fun q w' => ∃ (v' : Nat → Int32) (a' : Nat → Nat → Int32), q = .inl (some (.int (Int32.ofNat n - Int32.ofNat (rz_IP 24 R n 0 r b l).2.1))) ∧ w' = rz_w v' a' g ∧ rz_cf v a v' a' ∧ rz_kc v a v' a' ∧ rz_CC v' a' (rz_IP 24 R n 0 r b l).1 (rz_IP 24 R n 0 r b l).2.1 (rz_IP 24 R n 0 r b l).2.2.1 (rz_IP 24 R n 0 r b l).2.2.2.1 (rz_IP 24 R n 0 r b l).2.2.2.2) := by
  have hn := hR.1
  refine ev_ps 1 rfl (ev_call (av := [_]) rfl rfl rfl rfl ⟨Nat.le_of_ble_eq_true rfl, rfl⟩ ⟨Nat.le_of_ble_eq_true rfl, Nat.le_of_ble_eq_true rfl⟩ (c_length) ?_)
  rintro _ _ ⟨rfl, rfl⟩
  refine ev_ps 4 rfl (ev_call (av := [_, _]) rfl rfl rfl rfl ⟨Nat.le_of_ble_eq_true rfl, rfl⟩ ⟨Nat.le_of_ble_eq_true rfl, Nat.le_of_ble_eq_true rfl⟩ (z_findFor_14 hR.2.1 hn hR.2.2.1 hR.2.2.2.1) ?_)
  rintro _ _ ⟨rfl, f, rfl, hf0⟩
  refine ev_ps 4 rfl ?_
  refine ev_loop (α := Nat × Nat × (Nat → Int32) × (Nat → Nat → Int32) × (Nat → rz_Q) × Nat × Nat × Nat × Nat) (fun q => 24 - q.1) (fun t => t.1 ≤ 24 ∧ t.2.1 < 2 ^ 30 ∧ rz_cf v a t.2.2.1 t.2.2.2.1 ∧ rz_kc v a t.2.2.1 t.2.2.2.1 ∧ rz_CC t.2.2.1 t.2.2.2.1 t.2.2.2.2.1 t.2.2.2.2.2.1 t.2.2.2.2.2.2.1 t.2.2.2.2.2.2.2.1 t.2.2.2.2.2.2.2.2 ∧ (∀ k, k ≤ t.2.2.2.2.2.1 → t.2.2.2.1 6 k = rz_S t.2.2.2.2.1 t.2.2.2.2.2.1 k) ∧ rz_IP 24 R n 0 r b l = rz_IP (24 - t.1) t.2.2.2.2.1 t.2.2.2.2.2.1 t.2.1 t.2.2.2.2.2.2.1 t.2.2.2.2.2.2.2.1 t.2.2.2.2.2.2.2.2) (fun q => [some (.ref 13), some (.ref 1), some (.int (v 0)), some (.int (Int32.ofNat q.2.1)), some (.int (Int32.ofNat q.1))]) (fun _ => []) (fun q => rz_w q.2.2.1 q.2.2.2.1 g) ?_ (0, 0, v, rz_ua a 6 f, R, n, r, b, l) ⟨Nat.zero_le _, by show 0 < 2 ^ 30; decide, rz_cf.rf.ua (by decide) f, rz_kc.rf.ua (by decide) f, hR, hf0, rfl⟩
  rintro ⟨k, p, v1, a1, R1, n1, r1, b1, l1⟩ ⟨hk, hp, hf, hkc, hR1, h6, hIP⟩ ih
  dsimp only at hk hp hf hkc hR1 h6 hIP ih ⊢
  have fin : rz_IP 24 R n 0 r b l = (R1, n1, r1, b1, l1) → rz_E xs xl 9 46 [some (.ref 13), some (.ref 1), some (.int (v 0)), some (.int (Int32.ofNat p)), some (.int (Int32.ofNat k))] [] (rz_w v1 a1 g) 0 0 (fun q w' => ∃ (v' : Nat → Int32) (a' : Nat → Nat → Int32), q = .inl (some (.int (Int32.ofNat n - Int32.ofNat (rz_IP 24 R n 0 r b l).2.1))) ∧ w' = rz_w v' a' g ∧ rz_cf v a v' a' ∧ rz_kc v a v' a' ∧ rz_CC v' a' (rz_IP 24 R n 0 r b l).1 (rz_IP 24 R n 0 r b l).2.1 (rz_IP 24 R n 0 r b l).2.2.1 (rz_IP 24 R n 0 r b l).2.2.2.1 (rz_IP 24 R n 0 r b l).2.2.2.2) := by
    intro e
    refine ev_ps 2 rfl (ev_call (av := [_]) rfl rfl rfl rfl ⟨Nat.le_of_ble_eq_true rfl, rfl⟩ ⟨Nat.le_of_ble_eq_true rfl, Nat.le_of_ble_eq_true rfl⟩ (c_length) ?_)
    rintro _ _ ⟨rfl, rfl⟩
    refine ev_ps 1 rfl (ev_ret rfl rfl ⟨v1, a1, ?_, rfl, hf, hkc, ?_⟩)
    · rw [e, hR.2.1, hR1.2.1]
    · rw [e]; exact hR1
  refine ev_ps 2 rfl (ev_ic (cd := .ge) rfl (fun h => ?_) (fun h => ?_))
  · have hk4 : 24 ≤ k := rn_ge_t (k := 24) (by omega) (by omega) h
    refine fin ?_
    rw [hIP, show 24 - k = 0 by omega]; rfl
  have hk' : k < 24 := rn_ge_f (k := 24) (by omega) (by omega) h
  refine ev_ps 2 rfl (ev_call (av := [_, _]) rfl rfl rfl rfl ⟨Nat.le_of_ble_eq_true rfl, rfl⟩ ⟨Nat.le_of_ble_eq_true rfl, Nat.le_of_ble_eq_true rfl⟩ (y_has _) ?_)
  rintro _ _ ⟨⟨u, hu, hui, rfl⟩, rfl⟩
  refine ev_if (cd := .eq) rfl (fun h1 => ?_) (fun h1 => ?_)
  · have hno : ¬ p < n1 := fun q => absurd ((rc_eq_t h1).symm.trans (hui.mpr ⟨fun z => absurd ((rz_lt_iff (k := 0) (by omega) (by omega)).mp z) (by omega), by rw [hR1.2.1]; exact (rz_lt_iff (by omega) (by have := hR1.1; omega)).mpr q⟩)) (by decide)
    exact fin (hIP.trans (rz_IP_end (by omega)))
  have hyes : p < n1 := by
    have h := (hui.mp (hu.resolve_left (rc_eq_f h1))).2
    rw [hR1.2.1] at h
    exact (rz_lt_iff (by omega) (by have := hR1.1; omega)).mp h
  refine ev_ps 3 rfl (ev_call (av := [_, _, _]) rfl rfl rfl rfl ⟨Nat.le_of_ble_eq_true rfl, rfl⟩ ⟨Nat.le_of_ble_eq_true rfl, Nat.le_of_ble_eq_true rfl⟩ (y_improveAt hR1 h6 hyes) ?_)
  rintro _ _ ⟨v2, a2, rfl, rfl, hf2, hk2, hR2, h62⟩
  rw [show 24 - k = (24 - (k + 1)) + 1 by omega, rz_IP_step hyes] at hIP
  have h9 := ih (k + 1, rz_nx p (rz_im R1 n1 p r1 b1 l1).1, v2, a2, _, _, _, _, _) ⟨by show k + 1 ≤ 24; omega, by
    show rz_nx p (rz_im R1 n1 p r1 b1 l1).1 < 2 ^ 30
    have := hR1.1
    unfold rz_nx; split <;> omega, hf.tr hf2, hkc.tr hk2, hR2, h62, hIP⟩ (by show 24 - (k + 1) < 24 - k; omega)
  dsimp only at h9
  rw [← rz_succ k] at h9
  exact ev_ps 3 rfl h9
end RZY5
