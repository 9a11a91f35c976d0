/-! the reference: blocks, runs -/
section RZM3
variable {xs : Nat → Int32} {xl : Nat} {v : Nat → Int32} {a : Nat → Nat → Int32} {g : Nat → Int64}
/-- no row below n jumps to p -/
def rz_nt (a : Nat → Nat → Int32) (n p : Nat) : Prop := ∀ k, k < n → ¬ (¬ a 20 k < 12 ∧ ¬ 14 < a 20 k ∧ a 23 k = Int32.ofNat p)
theorem m_isBegin {p n : Nat} (hv : v 21 = Int32.ofNat n) (hn : n ≤ 24) (hp : p ≤ 24) : rz_C xs xl 91 [.ref 25, .int (Int32.ofNat p)] (rz_w v a g) (fun q w' => (∃ u : Int32, (u = 0 ∨ u = 1) ∧ (u = 0 → p ≠ 0 ∧ rz_nt a n p) ∧ q = .inl (some (.int u))) ∧ w' = rz_w v a g) := by
  have main : ∀ b : Int32, (b = 0 ∨ b = 1) → (b = 0 → p ≠ 0) → rz_E xs xl 91 22 [some (.ref 25), some (.int (Int32.ofNat p)), none, none] [.int b] (rz_w v a g) 0 0 (fun q w' => (∃ u : Int32, (u = 0 ∨ u = 1) ∧ (u = 0 → p ≠ 0 ∧ rz_nt a n p) ∧ q = .inl (some (.int u))) ∧ w' = rz_w v a g) := by
    intro b hb hbp
    refine ev_ps 3 rfl ?_
    refine ev_loop (α := Nat × Int32) (fun r => n - r.1) (fun r => r.1 ≤ n ∧ (r.2 = 0 ∨ r.2 = 1) ∧ (r.2 = 0 → p ≠ 0 ∧ rz_nt a r.1 p)) (fun r => [some (.ref 25), some (.int (Int32.ofNat p)), some (.int r.2), some (.int (Int32.ofNat r.1))]) (fun _ => []) (fun _ => rz_w v a g) ?_ (0, b) ⟨Nat.zero_le _, hb, fun h => ⟨hbp h, fun k hk => absurd hk (by omega)⟩⟩
    rintro ⟨k, b⟩ ⟨hk, hb, hbp⟩ ih
    dsimp only at hk hb hbp ih ⊢
    have next : k < n → ∀ c : Int32, (c = 0 ∨ c = 1) → (c = 0 → p ≠ 0 ∧ rz_nt a (k + 1) p) → rz_E xs xl 91 74 [some (.ref 25), some (.int (Int32.ofNat p)), some (.int b), some (.int (Int32.ofNat k))] [.int c] (rz_w v a g) 0 0 (fun q w' => (∃ u : Int32, (u = 0 ∨ u = 1) ∧ (u = 0 → p ≠ 0 ∧ rz_nt a n p) ∧ q = .inl (some (.int u))) ∧ w' = rz_w v a g) := fun hk' c hc hcp => by
      have h9 := ih (k + 1, c) ⟨by show k + 1 ≤ n; omega, hc, hcp⟩ (by show n - (k + 1) < n - k; omega)
      dsimp only at h9
      rw [← rz_succ k] at h9
      exact ev_ps 3 rfl h9
    refine ev_ps 3 rfl (ev_ic (cd := .ge) rfl (fun h => ?_) (fun h => ?_))
    · rw [hv] at h
      have hkn : n ≤ k := rn_ge_t (by omega) (by omega) h
      have : k = n := by omega
      subst this
      exact ev_ps 1 rfl (ev_ret rfl (show (if b = 0 ∨ b = 1 then some (some (Value.int b)) else none) = _ from if_pos hb) ⟨⟨b, hb, hbp, rfl⟩, rfl⟩)
    · rw [hv] at h
      have hk' : k < n := rn_ge_f (by omega) (by omega) h
      have e := rz_clamp (k := k) (by omega)
      have hin : ¬ (Int32.ofNat k < 0 ∨ 25 ≤ (Int32.ofNat k).toNatClampNeg) := rz_in (by omega) (by decide)
      refine ev_ps 1 rfl (ev_if (cd := .ne) rfl (fun h => ?_) (fun h => ?_))
      · exact ev_ps 2 rfl (next hk' 1 (Or.inr rfl) (fun h => absurd h (by decide)))
      · have hb0 : b = 0 := rc_ne_f h
        have ext : (¬ (¬ a 20 k < 12 ∧ ¬ 14 < a 20 k ∧ a 23 k = Int32.ofNat p)) → (0 : Int32) = 0 → p ≠ 0 ∧ rz_nt a (k + 1) p := fun hno _ => ⟨(hbp hb0).1, fun j hj => by
          by_cases hjk : j = k
          · rw [hjk]; exact hno
          · exact (hbp hb0).2 j (by omega)⟩
        refine ev_ps 3 rfl (ev_ald rfl rfl hin ?_)
        refine ev_ps 1 rfl (ev_ic (cd := .lt) rfl (fun h => ?_) (fun h => ?_))
        · exact ev_ps 1 rfl (next hk' 0 (Or.inl rfl) (ext (fun q => q.1 (by have := rc_lt_t h; rw [← e]; exact this))))
        · refine ev_ps 3 rfl (ev_ald rfl rfl hin ?_)
          refine ev_ps 1 rfl (ev_ic (cd := .gt) rfl (fun h2 => ?_) (fun h2 => ?_))
          · exact ev_ps 1 rfl (next hk' 0 (Or.inl rfl) (ext (fun q => q.2.1 (by have := rc_gt_t h2; rw [← e]; exact this))))
          · refine ev_ps 3 rfl (ev_ald rfl rfl hin ?_)
            refine ev_ps 1 rfl (ev_ic (cd := .ne) rfl (fun h3 => ?_) (fun h3 => ?_))
            · exact ev_ps 1 rfl (next hk' 0 (Or.inl rfl) (ext (fun q => rc_ne_t h3 (by rw [e]; exact q.2.2))))
            · exact ev_ps 2 rfl (next hk' 1 (Or.inr rfl) (fun h => absurd h (by decide)))
  refine ev_ps 1 rfl (ev_if (cd := .eq) rfl (fun h1 => ?_) (fun h1 => ?_))
  · exact ev_ps 2 rfl (main 1 (Or.inr rfl) (fun h => absurd h (by decide)))
  · have hp0 : 0 < p := by
      rcases Nat.eq_zero_or_pos p with rfl | h
      · exact absurd rfl (rc_eq_f h1)
      · exact h
    refine ev_ps 5 rfl (ev_ald rfl rfl (by rw [show Int32.ofNat p - Int32.ofInt 1 = Int32.ofNat (p - 1) from rz_sub (n := 1) hp0]; exact rz_in (by omega) (by decide)) ?_)
    refine ev_ps 1 rfl (ev_ic (cd := .lt) rfl (fun h2 => ?_) (fun h2 => ?_))
    · exact ev_ps 1 rfl (main 0 (Or.inl rfl) (fun _ => by omega))
    · exact ev_ps 2 rfl (main 1 (Or.inr rfl) (fun h => absurd h (by decide)))
theorem m_block (hmi : rz_mi v a) (x : Int32) : rz_C xs xl 90 [.ref 25, .int x] (rz_w v a g) (rz_mp v a g rz_pi) := by
  refine ev_ps 7 rfl (ev_call (av := [_, _, _]) rfl rfl rfl rfl ⟨Nat.le_of_ble_eq_true rfl, rfl⟩ ⟨Nat.le_of_ble_eq_true rfl, Nat.le_of_ble_eq_true rfl⟩ (m_in _ _ _) ?_)
  rintro _ _ ⟨⟨u2, h2, rfl⟩, rfl⟩
  refine ev_if (cd := .eq) rfl (fun e2 => ?_) (fun e2 => ?_)
  · refine ev_ps 2 rfl (ev_w (w2 := rz_w (rz_up v 20 1) a g) rfl ?_)
    refine ev_ps 2 rfl (ev_if (cd := .eq) rfl (fun h => absurd (rc_eq_t h) (show ¬ (1 : Int32) = 0 by decide)) (fun h => ?_))
    exact ev_ps 1 rfl (ev_ret rfl rfl ⟨⟨_, rfl⟩, _, _, rfl, rz_mf.rf.up (by omega) _, hmi⟩)
  · obtain ⟨-, y0, y1⟩ := h2.resolve_right (fun q => rc_eq_f e2 q.1)
    obtain ⟨n, hn, hv, hrows⟩ := hmi.1
    have y1' : ¬ v 21 - 1 < x := y1
    rw [hv] at y1'
    obtain ⟨k, hk, rfl⟩ := rz_sub1 hn y0 y1'
    refine ev_ps 3 rfl (ev_w (w2 := rz_w (rz_up v 20 0) a g) rfl ?_)
    refine ev_ps 2 rfl (ev_if (cd := .eq) rfl (fun h => ?_) (fun h => absurd rfl (rc_eq_f h)))
    refine ev_ps 2 rfl ?_
    refine ev_loop (α := Nat) (fun r => r) (fun r => r ≤ 24) (fun r => [some (.ref 25), some (.int (Int32.ofNat k)), some (.int (Int32.ofNat r))]) (fun _ => []) (fun _ => rz_w (rz_up v 20 0) a g) ?_ k (by omega)
    intro j hj ih
    refine ev_ps 2 rfl (ev_call (av := [_, _]) rfl rfl rfl rfl ⟨Nat.le_of_ble_eq_true rfl, rfl⟩ ⟨Nat.le_of_ble_eq_true rfl, Nat.le_of_ble_eq_true rfl⟩ (m_isBegin (v := rz_up v 20 0) hv hn hj) ?_)
    rintro _ _ ⟨⟨u3, hu3, hP3, rfl⟩, rfl⟩
    refine ev_if (cd := .ne) rfl (fun h => ?_) (fun h => ?_)
    · exact ev_ps 1 rfl (ev_ret rfl rfl ⟨⟨_, rfl⟩, _, _, rfl, rz_mf.rf.up (by omega) _, hmi⟩)
    · have hj0 : 0 < j := Nat.pos_of_ne_zero (hP3 (rc_ne_f h)).1
      have h9 := ih (j - 1) (by omega) (by omega)
      rw [← rz_sub (k := j) (n := 1) hj0, show Int32.ofNat j - Int32.ofNat 1 = Int32.ofNat j + Int32.ofInt (-1) from Int32.sub_eq_add_neg _ _] at h9
      exact ev_ps 2 rfl h9
theorem rz_cellIdx {i t : Nat} (hi : i ≤ 15) (ht : t ≤ 24) : ∃ c, c < 12 ∧ 4 + (Int32.ofNat i + Int32.ofNat t - (Int32.ofNat i + Int32.ofNat t) / 8 * 8) = Int32.ofNat c := by
  rw [rz_add]
  have key : ∀ s, s < 47 → (4 + (Int32.ofNat s - Int32.ofNat s / 8 * 8)) = Int32.ofNat (4 + s % 8) := by decide +kernel
  exact ⟨4 + (i + t) % 8, by omega, key (i + t) (by omega)⟩
theorem rz_sm_up {f : Nat → Int32} {n k j : Nat} (h : rz_sm f n) (hj : j ≤ 15) : rz_sm (upd f k (Int32.ofNat j)) n := by
  intro i hi
  by_cases hik : i = k
  · exact ⟨j, hj, by simp [upd, hik]⟩
  · obtain ⟨j', hj', e⟩ := h i hi
    exact ⟨j', hj', by simp [upd, hik]; exact e⟩
theorem m_execute {k n : Nat} (hmi : rz_mi v a) (hv : v 21 = Int32.ofNat n) (hn : n ≤ 24) (hk : k < n) (hli : rz_li a k) : rz_C xs xl 81 [.ref 25, .int (Int32.ofNat k)] (rz_w v a g) (fun q w' => q = .inl none ∧ ∃ (j : Nat) (f f2 : Nat → Int32), j ≤ 24 ∧ rz_sm f2 12 ∧ w' = rz_w (rz_up v 23 (Int32.ofNat j)) (rz_ua (rz_ua a 27 f) 25 f2) g) := by
  obtain ⟨o', d', s', t', ho, hd, hs, ht, b1, b2, b3, b4, b5⟩ := id hli
  have e := rz_clamp (k := k) (by omega)
  rw [← e] at ho hd hs ht
  have hin : ¬ (Int32.ofNat k < 0 ∨ 25 ≤ (Int32.ofNat k).toNatClampNeg) := rz_in (by omega) (by decide)
  -- the end: the state goes back into the cells
  have back : ∀ (x3 : Int32) (j : Nat) (f f2 : Nat → Int32), j ≤ 24 → rz_sm f 4 → rz_sm f2 12 → rz_E xs xl 81 220 [some (.ref 25), some (.int (Int32.ofNat k)), some (.int (a 20 (Int32.ofNat k).toNatClampNeg)), some (.int x3), none] [] (rz_w (rz_up v 23 (Int32.ofNat j)) (rz_ua (rz_ua a 27 f) 25 f2) g) 0 0 (fun q w' => q = .inl none ∧ ∃ (j : Nat) (f f2 : Nat → Int32), j ≤ 24 ∧ rz_sm f2 12 ∧ w' = rz_w (rz_up v 23 (Int32.ofNat j)) (rz_ua (rz_ua a 27 f) 25 f2) g) := by
    intro x3 j f f2 hj hf hf2
    refine ev_ps 2 rfl ?_
    refine ev_loop (α := Nat × (Nat → Int32)) (fun r => 4 - r.1) (fun r => r.1 ≤ 4 ∧ rz_sm r.2 12) (fun r => [some (.ref 25), some (.int (Int32.ofNat k)), some (.int (a 20 (Int32.ofNat k).toNatClampNeg)), some (.int x3), some (.int (Int32.ofNat r.1))]) (fun _ => []) (fun r => rz_w (rz_up v 23 (Int32.ofNat j)) (rz_ua (rz_ua a 27 f) 25 r.2) g) ?_ (0, f2) ⟨Nat.zero_le _, hf2⟩
    rintro ⟨i, f2⟩ ⟨hi, hf2⟩ ih
    dsimp only at hi hf2 ih ⊢
    refine ev_ps 2 rfl (ev_ic (cd := .ge) rfl (fun h => ?_) (fun h => ?_))
    · exact ev_ret rfl rfl ⟨rfl, j, f, f2, hj, hf2, rfl⟩
    · have hi' : i < 4 := rn_ge_f (k := 4) (by omega) (by omega) h
      obtain ⟨c, hc, ec⟩ := hf i hi'
      have ei := rz_clamp (k := i) (by omega)
      refine ev_ps 6 rfl (ev_ald rfl rfl (rz_in hi' (by decide)) ?_)
      refine ev_ast rfl rfl (rz_in (by omega) (by decide)) ?_
      have h9 := ih (i + 1, upd f2 i (Int32.ofNat c)) ⟨by show i + 1 ≤ 4; omega, rz_sm_up hf2 hc⟩ (by show 4 - (i + 1) < 4 - i; omega)
      dsimp only at h9
      rw [← rz_succ i] at h9
      refine ev_w (w2 := rz_w (rz_up v 23 (Int32.ofNat j)) (rz_ua (rz_ua a 27 f) 25 (upd f2 i (Int32.ofNat c))) g) ?_ (ev_ps 2 rfl h9)
      rw [ei, ← ec]
      rfl
  -- the row itself
  have mid : ∀ (f : Nat → Int32) (t3 : Option Value), rz_sm f 4 → rz_E xs xl 81 39 [some (.ref 25), some (.int (Int32.ofNat k)), some (.int (a 20 (Int32.ofNat k).toNatClampNeg)), t3, none] [] (rz_w (rz_up v 23 (Int32.ofNat (k + 1))) (rz_ua a 27 f) g) 0 0 (fun q w' => q = .inl none ∧ ∃ (j : Nat) (f f2 : Nat → Int32), j ≤ 24 ∧ rz_sm f2 12 ∧ w' = rz_w (rz_up v 23 (Int32.ofNat j)) (rz_ua (rz_ua a 27 f) 25 f2) g) := by
    intro f t3 hf
    obtain ⟨i, hi, ei⟩ := hmi.2.2.2 s' (by omega)
    obtain ⟨c, hc, ec⟩ := rz_cellIdx (i := i) (t := t') hi b4
    have es : a 25 (a 22 (Int32.ofNat k).toNatClampNeg).toNatClampNeg = Int32.ofNat i := by rw [hs, rz_clamp (by omega)]; exact ei
    refine ev_ps 6 rfl (ev_ald rfl rfl hin ?_)
    refine ev_ald rfl rfl (by rw [show (rz_ua a 27 f) 22 = a 22 from rfl, hs]; exact rz_in (by omega) (by decide)) ?_
    refine ev_ps 3 rfl (ev_ald rfl rfl hin ?_)
    refine ev_ps 5 rfl ?_
    refine ev_l (L2 := [some (.ref 25), some (.int (Int32.ofNat k)), some (.int (a 20 (Int32.ofNat k).toNatClampNeg)), some (.int (Int32.ofNat c)), none]) ?_ ?_
    · rw [← ec, ← es, ← ht]; rfl
    have same : rz_w (rz_up v 23 (Int32.ofNat (k + 1))) (rz_ua a 27 f) g = rz_w (rz_up v 23 (Int32.ofNat (k + 1))) (rz_ua (rz_ua a 27 f) 25 (a 25)) g := rfl
    have stay := back (Int32.ofNat c) (k + 1) f (a 25) (by omega) hf hmi.2.2.2
    have jump : rz_E xs xl 81 210 [some (.ref 25), some (.int (Int32.ofNat k)), some (.int (a 20 (Int32.ofNat k).toNatClampNeg)), some (.int (Int32.ofNat c)), none] [] (rz_w (rz_up v 23 (Int32.ofNat (k + 1))) (rz_ua a 27 f) g) 0 0 (fun q w' => q = .inl none ∧ ∃ (j : Nat) (f f2 : Nat → Int32), j ≤ 24 ∧ rz_sm f2 12 ∧ w' = rz_w (rz_up v 23 (Int32.ofNat j)) (rz_ua (rz_ua a 27 f) 25 f2) g) := by
      refine ev_ps 4 rfl (ev_ald rfl rfl hin ?_)
      refine ev_ps 1 rfl (ev_w (w2 := rz_w (rz_up v 23 (Int32.ofNat t')) (rz_ua (rz_ua a 27 f) 25 (a 25)) g) ?_ (back (Int32.ofNat c) t' f (a 25) b4 hf hmi.2.2.2))
      rw [← ht]; rfl
    have hd2 : ¬ (a 21 (Int32.ofNat k).toNatClampNeg < 0 ∨ 12 ≤ (a 21 (Int32.ofNat k).toNatClampNeg).toNatClampNeg) := by rw [hd]; exact rz_in (by omega) (by decide)
    have hs2 : ¬ (a 22 (Int32.ofNat k).toNatClampNeg < 0 ∨ 12 ≤ (a 22 (Int32.ofNat k).toNatClampNeg).toNatClampNeg) := by rw [hs]; exact rz_in (by omega) (by decide)
    refine ev_ps 2 rfl (ev_ic (cd := .gt) rfl (fun h => ?_) (fun h => ?_))
    · refine ev_ps 2 rfl (ev_ic (cd := .ne) rfl (fun h => ?_) (fun h => ?_))
      · refine ev_ps 2 rfl (ev_ic (cd := .ne) rfl (fun h => ?_) (fun h => ?_))
        · have later : rz_E xs xl 81 173 [some (.ref 25), some (.int (Int32.ofNat k)), some (.int (a 20 (Int32.ofNat k).toNatClampNeg)), some (.int (Int32.ofNat c)), none] [] (rz_w (rz_up v 23 (Int32.ofNat (k + 1))) (rz_ua a 27 f) g) 0 0 (fun q w' => q = .inl none ∧ ∃ (j : Nat) (f f2 : Nat → Int32), j ≤ 24 ∧ rz_sm f2 12 ∧ w' = rz_w (rz_up v 23 (Int32.ofNat j)) (rz_ua (rz_ua a 27 f) 25 f2) g) := by
            have last : rz_E xs xl 81 204 [some (.ref 25), some (.int (Int32.ofNat k)), some (.int (a 20 (Int32.ofNat k).toNatClampNeg)), some (.int (Int32.ofNat c)), none] [] (rz_w (rz_up v 23 (Int32.ofNat (k + 1))) (rz_ua a 27 f) g) 0 0 (fun q w' => q = .inl none ∧ ∃ (j : Nat) (f f2 : Nat → Int32), j ≤ 24 ∧ rz_sm f2 12 ∧ w' = rz_w (rz_up v 23 (Int32.ofNat j)) (rz_ua (rz_ua a 27 f) 25 f2) g) :=
              ev_ps 2 rfl (ev_ic (cd := .ne) rfl (fun h => ev_w same stay) (fun h => jump))
            refine ev_ps 2 rfl (ev_ic (cd := .ne) rfl (fun h => last) (fun h => ?_))
            refine ev_ps 5 rfl (ev_ald rfl rfl hin (ev_ald rfl rfl hd2 ?_))
            refine ev_ps 5 rfl (ev_ald rfl rfl hin (ev_ald rfl rfl hs2 ?_))
            exact ev_ic (cd := .ne) rfl (fun h => jump) (fun h => last)
          refine ev_ps 2 rfl (ev_ic (cd := .ne) rfl (fun h => later) (fun h => ?_))
          refine ev_ps 5 rfl (ev_ald rfl rfl hin (ev_ald rfl rfl hd2 ?_))
          refine ev_ps 5 rfl (ev_ald rfl rfl hin (ev_ald rfl rfl hs2 ?_))
          exact ev_ic (cd := .eq) rfl (fun h => jump) (fun h => later)
        · -- a cell is written
          obtain ⟨y, hy, ey⟩ := hmi.2.2.2 d' (by omega)
          have ed : a 25 (a 21 (Int32.ofNat k).toNatClampNeg).toNatClampNeg = Int32.ofNat y := by rw [hd, rz_clamp (by omega)]; exact ey
          refine ev_ps 8 rfl (ev_ald rfl rfl hin (ev_ald rfl rfl hd2 ?_))
          refine ev_ast rfl rfl (rz_in hc (by decide)) ?_
          refine ev_w (w2 := rz_w (rz_up v 23 (Int32.ofNat (k + 1))) (rz_ua (rz_ua a 27 f) 25 (upd (a 25) c (Int32.ofNat y))) g) ?_ (ev_ps 1 rfl (back (Int32.ofNat c) (k + 1) f _ (by omega) hf (rz_sm_up hmi.2.2.2 hy)))
          rw [← ed, rz_clamp (k := c) (by omega)]; rfl
      · -- a cell is read
        have fin : ∀ y : Nat, y ≤ 15 → rz_E xs xl 81 112 [some (.ref 25), some (.int (Int32.ofNat k)), some (.int (a 20 (Int32.ofNat k).toNatClampNeg)), some (.int (Int32.ofNat c)), none] [.int (Int32.ofNat y), .int (Int32.ofNat d'), .ref 33] (rz_w (rz_up v 23 (Int32.ofNat (k + 1))) (rz_ua a 27 f) g) 0 0 (fun q w' => q = .inl none ∧ ∃ (j : Nat) (f f2 : Nat → Int32), j ≤ 24 ∧ rz_sm f2 12 ∧ w' = rz_w (rz_up v 23 (Int32.ofNat j)) (rz_ua (rz_ua a 27 f) 25 f2) g) := by
          intro y hy
          refine ev_ast rfl rfl (rz_in (by omega) (by decide)) ?_
          exact ev_w (w2 := rz_w (rz_up v 23 (Int32.ofNat (k + 1))) (rz_ua (rz_ua a 27 (upd f _ (Int32.ofNat y))) 25 (a 25)) g) rfl (ev_ps 1 rfl (back (Int32.ofNat c) (k + 1) _ (a 25) (by omega) (rz_sm_up hf hy) hmi.2.2.2))
        refine ev_ps 5 rfl (ev_ald rfl rfl hin ?_)
        refine ev_ps 3 rfl (ev_ald rfl rfl hin ?_)
        rw [show (rz_ua a 27 f) 21 = a 21 from rfl, hd]
        refine ev_if (cd := .ne) rfl (fun h => ?_) (fun h => ?_)
        · obtain ⟨y, hy, ey⟩ := hmi.2.2.2 c hc
          refine ev_ps 3 rfl (ev_ald rfl rfl (rz_in hc (by decide)) ?_)
          rw [show (rz_ua a 27 f) 25 = a 25 from rfl, rz_clamp (k := c) (by omega), ey]
          exact fin y hy
        · exact ev_ps 2 rfl (fin 0 (by omega))
    · refine ev_ps 2 rfl (ev_call (av := [_, _]) rfl rfl rfl rfl ⟨Nat.le_of_ble_eq_true rfl, rfl⟩ ⟨Nat.le_of_ble_eq_true rfl, Nat.le_of_ble_eq_true rfl⟩ (m_does (by omega) hli) ?_)
      rintro _ _ ⟨rfl, d, y, hd3, hy, rfl⟩
      exact ev_w (w2 := rz_w (rz_up v 23 (Int32.ofNat (k + 1))) (rz_ua (rz_ua a 27 (upd f d (Int32.ofNat y))) 25 (a 25)) g) rfl (ev_ps 1 rfl (back (Int32.ofNat c) (k + 1) _ (a 25) (by omega) (rz_sm_up hf hy) hmi.2.2.2))
  refine ev_ps 3 rfl (ev_ald rfl rfl hin ?_)
  refine ev_ps 6 rfl (ev_w (w2 := rz_w (rz_up v 23 (Int32.ofNat (k + 1))) (rz_ua a 27 (a 27)) g) (by rw [← rz_succ]; rfl) ?_)
  refine ev_ps 2 rfl ?_
  refine ev_loop (α := Nat × (Nat → Int32)) (fun r => 4 - r.1) (fun r => r.1 ≤ 4 ∧ rz_sm r.2 r.1) (fun r => [some (.ref 25), some (.int (Int32.ofNat k)), some (.int (a 20 (Int32.ofNat k).toNatClampNeg)), some (.int (Int32.ofNat r.1)), none]) (fun _ => []) (fun r => rz_w (rz_up v 23 (Int32.ofNat (k + 1))) (rz_ua a 27 r.2) g) ?_ (0, a 27) ⟨Nat.zero_le _, fun j hj => absurd hj (by omega)⟩
  rintro ⟨i, f⟩ ⟨hi, hf⟩ ih
  dsimp only at hi hf ih ⊢
  refine ev_ps 2 rfl (ev_ic (cd := .ge) rfl (fun h => ?_) (fun h => ?_))
  · have h4 : 4 ≤ i := rn_ge_t (k := 4) (by omega) (by omega) h
    have : i = 4 := by omega
    subst this
    exact mid f _ hf
  · have hi' : i < 4 := rn_ge_f (k := 4) (by omega) (by omega) h
    obtain ⟨y, hy, ey⟩ := hmi.2.2.2 i (by omega)
    have ei := rz_clamp (k := i) (by omega)
    refine ev_ps 6 rfl (ev_ald rfl rfl (rz_in (by omega) (by decide)) ?_)
    refine ev_ast rfl rfl (rz_in hi' (by decide)) ?_
    have h9 := ih (i + 1, upd f i (Int32.ofNat y)) ⟨by show i + 1 ≤ 4; omega, fun j hj => by
      by_cases hji : j = i
      · exact ⟨y, hy, by simp [upd, hji]⟩
      · obtain ⟨c, hc, ec⟩ := hf j (by omega)
        exact ⟨c, hc, by simp [upd, hji]; exact ec⟩⟩ (by show 4 - (i + 1) < 4 - i; omega)
    dsimp only at h9
    rw [← rz_succ i] at h9
    refine ev_w (w2 := rz_w (rz_up v 23 (Int32.ofNat (k + 1))) (rz_ua a 27 (upd f i (Int32.ofNat y))) g) ?_ (ev_ps 2 rfl h9)
    rw [ei, ← ey]; rfl
end RZM3
