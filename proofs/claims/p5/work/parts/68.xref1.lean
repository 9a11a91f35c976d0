/-! the reference, exactly: a row done, two rows held against each other -/
section RZX1
variable {xs : Nat → Int32} {xl : Nat} {v : Nat → Int32} {a : Nat → Nat → Int32} {g : Nat → Int64} {w : rz_W}
def rz_bx (w : rz_W) (P : Prop) : rz_R → rz_W → Prop := fun q w' => (∃ u : Int32, (u = 0 ∨ u = 1) ∧ (u = 1 ↔ P) ∧ q = .inl (some (.int u))) ∧ w' = w
theorem rz_bx0 {P : Prop} (h : ¬ P) : rz_bx w P (.inl (some (.int 0))) w := ⟨⟨0, Or.inl rfl, ⟨fun h => absurd h (by decide), fun q => absurd q h⟩, rfl⟩, rfl⟩
theorem rz_bx1 {P : Prop} (h : P) : rz_bx w P (.inl (some (.int 1))) w := ⟨⟨1, Or.inr rfl, ⟨fun _ => h, fun _ => rfl⟩, rfl⟩, rfl⟩
/-- row k of the reference's arrays is q -/
def rz_rw (a : Nat → Nat → Int32) (k : Nat) (q : rz_Q) : Prop := rz_lg q ∧ a 20 k = Int32.ofNat q.1 ∧ a 21 k = Int32.ofNat q.2.1 ∧ a 22 k = Int32.ofNat q.2.2.1 ∧ a 23 k = Int32.ofNat q.2.2.2
theorem rz_rw.li {k : Nat} {q : rz_Q} (h : rz_rw a k q) : rz_li a k := ⟨_, _, _, _, h.2.1, h.2.2.1, h.2.2.2.1, h.2.2.2.2, h.1.1, h.1.2.1, h.1.2.2.1, h.1.2.2.2.1, h.1.2.2.2.2⟩
theorem rz_sp_cg {q : rz_Q} (hq : rz_lg q) {f x : Nat → Int32} (h : ∀ j, j < 4 → f j = x j) : ∀ j, j < 4 → rz_sp q f j = rz_sp q x j := by
  intro j hj
  unfold rz_sp
  rw [h q.2.2.1 (by have := hq.2.2.1; omega), h j hj]
  by_cases h5 : q.1 ≤ 5
  · rw [if_pos h5, if_pos h5, h q.2.2.2 (by have := hq.2.2.2.2 h5; omega)]
  · rw [if_neg h5, if_neg h5]
theorem m_madeX {k : Nat} (hk : k < 16) (x y : Int32) : rz_C xs xl 83 [.int (Int32.ofNat k), .int x, .int y] w (fun q w' => q = .inl (some (.int (rz_made k x y))) ∧ w' = w) := by
  rcases (show k = 0 ∨ k = 1 ∨ k = 2 ∨ k = 3 ∨ k = 4 ∨ k = 5 ∨ k = 6 ∨ k = 7 ∨ k = 8 ∨ k = 9 ∨ k = 10 ∨ k = 11 ∨ k = 12 ∨ k = 13 ∨ k = 14 ∨ k = 15 by omega) with rfl | rfl | rfl | rfl | rfl | rfl | rfl | rfl | rfl | rfl | rfl | rfl | rfl | rfl | rfl | rfl
  · exact ev_ps 10 rfl (ev_ret rfl rfl ⟨rfl, rfl⟩)
  · exact ev_ps 16 rfl (ev_ret rfl rfl ⟨rfl, rfl⟩)
  · exact ev_ps 19 rfl (ev_ret rfl rfl ⟨rfl, rfl⟩)
  · exact ev_ps 25 rfl (ev_ret rfl rfl ⟨rfl, rfl⟩)
  · exact ev_ps 28 rfl (ev_ret rfl rfl ⟨rfl, rfl⟩)
  · refine ev_ps 28 rfl (ev_ic (cd := .ge) rfl (fun h => ?_) (fun h => ?_))
    · exact ev_ps 6 rfl (ev_ret rfl rfl ⟨by rw [rz_made, if_neg (by decide), if_neg (by decide), if_neg (by decide), if_neg (by decide), if_neg (by decide), if_pos rfl, if_neg (fun q => Int32.not_lt.mpr (rc_ge_t h) q)]; rfl, rfl⟩)
    · exact ev_ps 6 rfl (ev_ret rfl rfl ⟨by rw [rz_made, if_neg (by decide), if_neg (by decide), if_neg (by decide), if_neg (by decide), if_neg (by decide), if_pos rfl, if_pos (Int32.not_le.mp (rc_ge_f h))]; rfl, rfl⟩)
  · exact ev_ps 13 rfl (ev_ret rfl rfl ⟨rfl, rfl⟩)
  · exact ev_ps 22 rfl (ev_ret rfl rfl ⟨rfl, rfl⟩)
  · exact ev_ps 31 rfl (ev_ret rfl rfl ⟨rfl, rfl⟩)
  · exact ev_ps 33 rfl (ev_ret rfl rfl ⟨rfl, rfl⟩)
  · exact ev_ps 33 rfl (ev_ret rfl rfl ⟨rfl, rfl⟩)
  · exact ev_ps 33 rfl (ev_ret rfl rfl ⟨rfl, rfl⟩)
  · exact ev_ps 33 rfl (ev_ret rfl rfl ⟨rfl, rfl⟩)
  · exact ev_ps 33 rfl (ev_ret rfl rfl ⟨rfl, rfl⟩)
  · exact ev_ps 33 rfl (ev_ret rfl rfl ⟨rfl, rfl⟩)
  · exact ev_ps 33 rfl (ev_ret rfl rfl ⟨rfl, rfl⟩)
theorem m_doesX {k : Nat} {q : rz_Q} (hk : k < 25) (hr : rz_rw a k q) : rz_C xs xl 82 [.ref 25, .int (Int32.ofNat k)] (rz_w v a g) (fun r w' => r = .inl none ∧ w' = rz_w v (rz_ua a 27 (rz_sp q (a 27))) g) := by
  obtain ⟨⟨b1, b2, b3, b4, b5⟩, ho, hd, hs, ht⟩ := hr
  have e := rz_clamp (k := k) (by omega)
  rw [← e] at ho hd hs ht
  have hin : ¬ (Int32.ofNat k < 0 ∨ 25 ≤ (Int32.ofNat k).toNatClampNeg) := rz_in hk (by decide)
  have tail : ∀ b : Int32, b = (if q.1 ≤ 5 then a 27 q.2.2.2 else Int32.ofNat q.2.2.2) → rz_E xs xl 82 33 [some (.ref 25), some (.int (Int32.ofNat k)), some (.int (Int32.ofNat q.1)), none, none] [.int b] (rz_w v a g) 0 0 (fun r w' => r = .inl none ∧ w' = rz_w v (rz_ua a 27 (rz_sp q (a 27))) g) := by
    intro b hb
    refine ev_ps 7 rfl (ev_ald rfl rfl hin ?_)
    rw [hs]
    refine ev_ald rfl rfl (rz_in (by omega) (by decide)) ?_
    rw [rz_clamp (k := q.2.2.1) (by omega)]
    refine ev_ps 1 rfl (ev_call (av := [_, _, _]) rfl rfl rfl rfl ⟨Nat.le_of_ble_eq_true rfl, rfl⟩ ⟨Nat.le_of_ble_eq_true rfl, Nat.le_of_ble_eq_true rfl⟩ (m_madeX (by omega) _ _) ?_)
    rintro _ _ ⟨rfl, rfl⟩
    refine ev_ps 6 rfl (ev_ald rfl rfl hin ?_)
    refine ev_ps 3 rfl (ev_ald rfl rfl hin ?_)
    rw [hd]
    refine ev_if (cd := .ne) rfl (fun h => ?_) (fun h => ?_)
    · refine ev_ps 1 rfl (ev_ast rfl rfl (rz_in (by omega) (by decide)) ?_)
      refine ev_ret rfl rfl ⟨rfl, ?_⟩
      rw [rz_clamp (by omega)]
      have h0 : ¬ q.2.1 = 0 := fun z => rc_ne_t h (by rw [z]; rfl)
      have e2 : rz_sp q (a 27) = upd (a 27) q.2.1 (rz_made q.1 (a 27 q.2.2.1) b) := by
        funext j
        unfold rz_sp upd
        rw [if_neg h0, hb]
      rw [e2]
      rfl
    · refine ev_ps 2 rfl (ev_ast rfl rfl (rz_in (by omega) (by decide)) ?_)
      refine ev_ret rfl rfl ⟨rfl, ?_⟩
      rw [rz_clamp (by omega)]
      have h0 : q.2.1 = 0 := (rz_eq_iff (k := 0) (by omega) (by omega)).mp (rc_ne_f h)
      have e2 : rz_sp q (a 27) = upd (a 27) q.2.1 0 := by
        funext j
        unfold rz_sp upd
        rw [if_pos h0]
      rw [e2]
      rfl
  refine ev_ps 3 rfl (ev_ald rfl rfl hin ?_)
  rw [ho]
  refine ev_ps 3 rfl (ev_ic (cd := .ge) rfl (fun h => ?_) (fun h => ?_))
  · have h6 : 6 ≤ q.1 := rn_ge_t (k := 6) (by omega) (by omega) h
    refine ev_ps 3 rfl (ev_ald rfl rfl hin ?_)
    rw [ht]
    exact tail _ (by rw [if_neg (by omega)])
  · have h6 : q.1 < 6 := rn_ge_f (k := 6) (by omega) (by omega) h
    refine ev_ps 5 rfl (ev_ald rfl rfl hin ?_)
    rw [ht]
    refine ev_ald rfl rfl (rz_in (by have := b5 (by omega); omega) (by decide)) ?_
    exact ev_ps 1 rfl (tail _ (by rw [if_pos (by omega), rz_clamp (by omega)]))
theorem m_beginX (s : Nat) : rz_C xs xl 96 [.ref 25, .int (Int32.ofNat s)] (rz_w v a g) (fun q w' => q = .inl none ∧ ∃ f, w' = rz_w v (rz_ua a 27 f) g ∧ ∀ j, j < 4 → f j = rz_bg s j) := by
  refine ev_ps 4 rfl (ev_ast rfl rfl (by decide) ?_)
  refine ev_w (w2 := rz_w v (rz_ua a 27 (upd (a 27) _ _)) g) rfl ?_
  refine ev_ps 6 rfl (ev_ast rfl rfl (by decide) ?_)
  refine ev_w (w2 := rz_w v (rz_ua a 27 (upd (upd (a 27) _ _) _ _)) g) rfl ?_
  refine ev_ps 8 rfl (ev_ast rfl rfl (by decide) ?_)
  refine ev_w (w2 := rz_w v (rz_ua a 27 (upd (upd (upd (a 27) _ _) _ _) _ _)) g) rfl ?_
  refine ev_ps 6 rfl (ev_ast rfl rfl (by decide) ?_)
  refine ev_w (w2 := rz_w v (rz_ua a 27 (upd (upd (upd (upd (a 27) _ _) _ _) _ _) _ _)) g) rfl (ev_ret rfl rfl ⟨rfl, _, rfl, fun j hj => ?_⟩)
  rcases (show j = 0 ∨ j = 1 ∨ j = 2 ∨ j = 3 by omega) with rfl | rfl | rfl | rfl <;> rfl
theorem m_agreeX {p n q m : Nat} {R1 R2 : Nat → rz_Q} (z : Int32) (hp : p + n ≤ 25) (hq : q + m ≤ 25) (h1 : ∀ k, k < n → rz_rw a (p + k) (R1 (p + k))) (h2 : ∀ k, k < m → rz_rw a (q + k) (R2 (q + k))) : rz_C xs xl 95 [.ref 25, .int (Int32.ofNat p), .int (Int32.ofNat n), .int (Int32.ofNat q), .int (Int32.ofNat m), .int z] (rz_w v a g) (fun r w' => (∃ u : Int32, (u = 0 ∨ u = 1) ∧ (u = 1 ↔ rz_ag (rz_sq R1 p n) (rz_sq R2 q m) z) ∧ r = .inl (some (.int u))) ∧ ∃ f1 f2, w' = rz_w v (rz_ua (rz_ua a 27 f1) 28 f2) g) := by
  have D1 : ∀ (s : Nat) (f1 f2 : Nat → Int32), (∀ j, j < 4 → f1 j = rz_bg s j) → (∀ (t7 : Option Value) (f : Nat → Int32), (∀ j, j < 4 → f j = rz_sq R1 p n (rz_bg s) j) → rz_E xs xl 95 40 [some (.ref 25), some (.int (Int32.ofNat p)), some (.int (Int32.ofNat n)), some (.int (Int32.ofNat q)), some (.int (Int32.ofNat m)), some (.int z), some (.int (Int32.ofNat s)), t7] [] (rz_w v (rz_ua (rz_ua a 27 f) 28 f2) g) 0 0 (fun r w' => (∃ u : Int32, (u = 0 ∨ u = 1) ∧ (u = 1 ↔ rz_ag (rz_sq R1 p n) (rz_sq R2 q m) z) ∧ r = .inl (some (.int u))) ∧ ∃ f1 f2, w' = rz_w v (rz_ua (rz_ua a 27 f1) 28 f2) g)) → rz_E xs xl 95 20 [some (.ref 25), some (.int (Int32.ofNat p)), some (.int (Int32.ofNat n)), some (.int (Int32.ofNat q)), some (.int (Int32.ofNat m)), some (.int z), some (.int (Int32.ofNat s)), some (.int (Int32.ofNat 0))] [] (rz_w v (rz_ua (rz_ua a 27 f1) 28 f2) g) 0 0 (fun r w' => (∃ u : Int32, (u = 0 ∨ u = 1) ∧ (u = 1 ↔ rz_ag (rz_sq R1 p n) (rz_sq R2 q m) z) ∧ r = .inl (some (.int u))) ∧ ∃ f1 f2, w' = rz_w v (rz_ua (rz_ua a 27 f1) 28 f2) g) := by
    intro s f1 f2 hf1 hK
    refine ev_loop (α := Nat × (Nat → Int32)) (fun r => n - r.1) (fun r => r.1 ≤ n ∧ ∀ j, j < 4 → r.2 j = rz_sq R1 p r.1 (rz_bg s) j) (fun r => [some (.ref 25), some (.int (Int32.ofNat p)), some (.int (Int32.ofNat n)), some (.int (Int32.ofNat q)), some (.int (Int32.ofNat m)), some (.int z), some (.int (Int32.ofNat s)), some (.int (Int32.ofNat r.1))]) (fun _ => []) (fun r => rz_w v (rz_ua (rz_ua a 27 r.2) 28 f2) g) ?_ (0, f1) ⟨Nat.zero_le _, hf1⟩
    rintro ⟨k, f⟩ ⟨hk, hf⟩ ih
    dsimp only at hk hf ih ⊢
    refine ev_ps 2 rfl (ev_ic (cd := .ge) rfl (fun h => ?_) (fun h => ?_))
    · have hkn : n ≤ k := rn_ge_t (by omega) (by omega) h
      have e : k = n := by omega
      subst e
      exact hK _ _ hf
    have hk' : k < n := rn_ge_f (by omega) (by omega) h
    have hrow := h1 k hk'
    refine ev_ps 4 rfl ?_
    refine ev_call (av := [.ref 25, .int (Int32.ofNat (p + k))]) rfl (by rw [← rz_add]; rfl) rfl rfl ⟨Nat.le_of_ble_eq_true rfl, rfl⟩ ⟨Nat.le_of_ble_eq_true rfl, Nat.le_of_ble_eq_true rfl⟩ (m_doesX (a := rz_ua (rz_ua a 27 f) 28 f2) (by omega) hrow) ?_
    rintro _ _ ⟨rfl, rfl⟩
    have h9 := ih (k + 1, rz_sp (R1 (p + k)) f) ⟨by show k + 1 ≤ n; omega, rz_sp_cg hrow.1 hf⟩ (by show n - (k + 1) < n - k; omega)
    dsimp only at h9
    rw [← rz_succ k] at h9
    exact ev_w (w2 := rz_w v (rz_ua (rz_ua a 27 (rz_sp (R1 (p + k)) f)) 28 f2) g) rfl (ev_ps 2 rfl h9)
  have D3 : ∀ (s : Nat) (f1 f2 : Nat → Int32), (∀ j, j < 4 → f1 j = rz_bg s j) → (∀ (t7 : Option Value) (f : Nat → Int32), (∀ j, j < 4 → f j = rz_sq R2 q m (rz_bg s) j) → rz_E xs xl 95 99 [some (.ref 25), some (.int (Int32.ofNat p)), some (.int (Int32.ofNat n)), some (.int (Int32.ofNat q)), some (.int (Int32.ofNat m)), some (.int z), some (.int (Int32.ofNat s)), t7] [] (rz_w v (rz_ua (rz_ua a 27 f) 28 f2) g) 0 0 (fun r w' => (∃ u : Int32, (u = 0 ∨ u = 1) ∧ (u = 1 ↔ rz_ag (rz_sq R1 p n) (rz_sq R2 q m) z) ∧ r = .inl (some (.int u))) ∧ ∃ f1 f2, w' = rz_w v (rz_ua (rz_ua a 27 f1) 28 f2) g)) → rz_E xs xl 95 78 [some (.ref 25), some (.int (Int32.ofNat p)), some (.int (Int32.ofNat n)), some (.int (Int32.ofNat q)), some (.int (Int32.ofNat m)), some (.int z), some (.int (Int32.ofNat s)), some (.int (Int32.ofNat 0))] [] (rz_w v (rz_ua (rz_ua a 27 f1) 28 f2) g) 0 0 (fun r w' => (∃ u : Int32, (u = 0 ∨ u = 1) ∧ (u = 1 ↔ rz_ag (rz_sq R1 p n) (rz_sq R2 q m) z) ∧ r = .inl (some (.int u))) ∧ ∃ f1 f2, w' = rz_w v (rz_ua (rz_ua a 27 f1) 28 f2) g) := by
    intro s f1 f2 hf1 hK
    refine ev_loop (α := Nat × (Nat → Int32)) (fun r => m - r.1) (fun r => r.1 ≤ m ∧ ∀ j, j < 4 → r.2 j = rz_sq R2 q r.1 (rz_bg s) j) (fun r => [some (.ref 25), some (.int (Int32.ofNat p)), some (.int (Int32.ofNat n)), some (.int (Int32.ofNat q)), some (.int (Int32.ofNat m)), some (.int z), some (.int (Int32.ofNat s)), some (.int (Int32.ofNat r.1))]) (fun _ => []) (fun r => rz_w v (rz_ua (rz_ua a 27 r.2) 28 f2) g) ?_ (0, f1) ⟨Nat.zero_le _, hf1⟩
    rintro ⟨k, f⟩ ⟨hk, hf⟩ ih
    dsimp only at hk hf ih ⊢
    refine ev_ps 2 rfl (ev_ic (cd := .ge) rfl (fun h => ?_) (fun h => ?_))
    · have hkn : m ≤ k := rn_ge_t (by omega) (by omega) h
      have e : k = m := by omega
      subst e
      exact hK _ _ hf
    have hk' : k < m := rn_ge_f (by omega) (by omega) h
    have hrow := h2 k hk'
    refine ev_ps 4 rfl ?_
    refine ev_call (av := [.ref 25, .int (Int32.ofNat (q + k))]) rfl (by rw [← rz_add]; rfl) rfl rfl ⟨Nat.le_of_ble_eq_true rfl, rfl⟩ ⟨Nat.le_of_ble_eq_true rfl, Nat.le_of_ble_eq_true rfl⟩ (m_doesX (a := rz_ua (rz_ua a 27 f) 28 f2) (by omega) hrow) ?_
    rintro _ _ ⟨rfl, rfl⟩
    have h9 := ih (k + 1, rz_sp (R2 (q + k)) f) ⟨by show k + 1 ≤ m; omega, rz_sp_cg hrow.1 hf⟩ (by show m - (k + 1) < m - k; omega)
    dsimp only at h9
    rw [← rz_succ k] at h9
    exact ev_w (w2 := rz_w v (rz_ua (rz_ua a 27 (rz_sp (R2 (q + k)) f)) 28 f2) g) rfl (ev_ps 2 rfl h9)
  have D2 : ∀ (s : Nat) (f1 f2 : Nat → Int32), (∀ (t7 : Option Value) (f : Nat → Int32), (∀ j, j < 4 → f j = f1 j) → rz_E xs xl 95 69 [some (.ref 25), some (.int (Int32.ofNat p)), some (.int (Int32.ofNat n)), some (.int (Int32.ofNat q)), some (.int (Int32.ofNat m)), some (.int z), some (.int (Int32.ofNat s)), t7] [] (rz_w v (rz_ua (rz_ua a 27 f1) 28 f) g) 0 0 (fun r w' => (∃ u : Int32, (u = 0 ∨ u = 1) ∧ (u = 1 ↔ rz_ag (rz_sq R1 p n) (rz_sq R2 q m) z) ∧ r = .inl (some (.int u))) ∧ ∃ f1 f2, w' = rz_w v (rz_ua (rz_ua a 27 f1) 28 f2) g)) → rz_E xs xl 95 43 [some (.ref 25), some (.int (Int32.ofNat p)), some (.int (Int32.ofNat n)), some (.int (Int32.ofNat q)), some (.int (Int32.ofNat m)), some (.int z), some (.int (Int32.ofNat s)), some (.int (Int32.ofNat 0))] [] (rz_w v (rz_ua (rz_ua a 27 f1) 28 f2) g) 0 0 (fun r w' => (∃ u : Int32, (u = 0 ∨ u = 1) ∧ (u = 1 ↔ rz_ag (rz_sq R1 p n) (rz_sq R2 q m) z) ∧ r = .inl (some (.int u))) ∧ ∃ f1 f2, w' = rz_w v (rz_ua (rz_ua a 27 f1) 28 f2) g) := by
    intro s f1 f2 hK
    refine ev_loop (α := Nat × (Nat → Int32)) (fun r => 4 - r.1) (fun r => r.1 ≤ 4 ∧ ∀ j, j < r.1 → r.2 j = f1 j) (fun r => [some (.ref 25), some (.int (Int32.ofNat p)), some (.int (Int32.ofNat n)), some (.int (Int32.ofNat q)), some (.int (Int32.ofNat m)), some (.int z), some (.int (Int32.ofNat s)), some (.int (Int32.ofNat r.1))]) (fun _ => []) (fun r => rz_w v (rz_ua (rz_ua a 27 f1) 28 r.2) g) ?_ (0, f2) ⟨Nat.zero_le _, fun j hj => absurd hj (Nat.not_lt_zero _)⟩
    rintro ⟨k, f⟩ ⟨hk, hf⟩ ih
    dsimp only at hk hf ih ⊢
    refine ev_ps 2 rfl (ev_ic (cd := .ge) rfl (fun h => ?_) (fun h => ?_))
    · have hkn : 4 ≤ k := rn_ge_t (k := 4) (by omega) (by omega) h
      exact hK _ _ (fun j hj => hf j (by omega))
    have hk' : k < 4 := rn_ge_f (k := 4) (by omega) (by omega) h
    refine ev_ps 6 rfl (ev_ald rfl rfl (rz_in hk' (by decide)) ?_)
    refine ev_ast rfl rfl (rz_in hk' (by decide)) ?_
    rw [rz_clamp (k := k) (by omega)]
    have h9 := ih (k + 1, upd f k (f1 k)) ⟨by show k + 1 ≤ 4; omega, fun j hj => by
      by_cases hjk : j = k
      · simp [upd, hjk]
      · simp only [upd, hjk, if_false]; exact hf j (by have : j < k + 1 := hj; omega)⟩ (by show 4 - (k + 1) < 4 - k; omega)
    dsimp only at h9
    rw [← rz_succ k] at h9
    exact ev_w (w2 := rz_w v (rz_ua (rz_ua a 27 f1) 28 (upd f k (f1 k))) g) rfl (ev_ps 2 rfl h9)
  have D4 : ∀ (s : Nat), s < 4096 → ∀ (f1 f2 : Nat → Int32), (∀ j, j < 4 → f1 j = rz_sq R2 q m (rz_bg s) j) → (∀ j, j < 4 → f2 j = rz_sq R1 p n (rz_bg s) j) → (∀ (t7 : Option Value), (∀ k, 1 ≤ k → k < 4 → rz_on z k → rz_sq R1 p n (rz_bg s) k = rz_sq R2 q m (rz_bg s) k) → rz_E xs xl 95 144 [some (.ref 25), some (.int (Int32.ofNat p)), some (.int (Int32.ofNat n)), some (.int (Int32.ofNat q)), some (.int (Int32.ofNat m)), some (.int z), some (.int (Int32.ofNat s)), t7] [] (rz_w v (rz_ua (rz_ua a 27 f1) 28 f2) g) 0 0 (fun r w' => (∃ u : Int32, (u = 0 ∨ u = 1) ∧ (u = 1 ↔ rz_ag (rz_sq R1 p n) (rz_sq R2 q m) z) ∧ r = .inl (some (.int u))) ∧ ∃ f1 f2, w' = rz_w v (rz_ua (rz_ua a 27 f1) 28 f2) g)) → rz_E xs xl 95 102 [some (.ref 25), some (.int (Int32.ofNat p)), some (.int (Int32.ofNat n)), some (.int (Int32.ofNat q)), some (.int (Int32.ofNat m)), some (.int z), some (.int (Int32.ofNat s)), some (.int (Int32.ofNat 1))] [] (rz_w v (rz_ua (rz_ua a 27 f1) 28 f2) g) 0 0 (fun r w' => (∃ u : Int32, (u = 0 ∨ u = 1) ∧ (u = 1 ↔ rz_ag (rz_sq R1 p n) (rz_sq R2 q m) z) ∧ r = .inl (some (.int u))) ∧ ∃ f1 f2, w' = rz_w v (rz_ua (rz_ua a 27 f1) 28 f2) g) := by
    intro s hs f1 f2 hf1 hf2 hK
    refine ev_loop (α := Nat) (fun r => 4 - r) (fun r => 1 ≤ r ∧ r ≤ 4 ∧ ∀ k, 1 ≤ k → k < r → rz_on z k → rz_sq R1 p n (rz_bg s) k = rz_sq R2 q m (rz_bg s) k) (fun r => [some (.ref 25), some (.int (Int32.ofNat p)), some (.int (Int32.ofNat n)), some (.int (Int32.ofNat q)), some (.int (Int32.ofNat m)), some (.int z), some (.int (Int32.ofNat s)), some (.int (Int32.ofNat r))]) (fun _ => []) (fun r => rz_w v (rz_ua (rz_ua a 27 f1) 28 f2) g) ?_ 1 ⟨Nat.le_refl _, by omega, fun k h1 h2 => absurd h2 (by omega)⟩
    rintro k ⟨hk1, hk, hag⟩ ih
    have next : k < 4 → (rz_on z k → rz_sq R1 p n (rz_bg s) k = rz_sq R2 q m (rz_bg s) k) → rz_E xs xl 95 138 [some (.ref 25), some (.int (Int32.ofNat p)), some (.int (Int32.ofNat n)), some (.int (Int32.ofNat q)), some (.int (Int32.ofNat m)), some (.int z), some (.int (Int32.ofNat s)), some (.int (Int32.ofNat k))] [] (rz_w v (rz_ua (rz_ua a 27 f1) 28 f2) g) 0 0 (fun r w' => (∃ u : Int32, (u = 0 ∨ u = 1) ∧ (u = 1 ↔ rz_ag (rz_sq R1 p n) (rz_sq R2 q m) z) ∧ r = .inl (some (.int u))) ∧ ∃ f1 f2, w' = rz_w v (rz_ua (rz_ua a 27 f1) 28 f2) g) := fun hk' hon => by
      have h9 := ih (k + 1) ⟨by omega, by omega, fun j h1 h2 h3 => by
        by_cases hjk : j = k
        · rw [hjk] at h3 ⊢; exact hon h3
        · exact hag j h1 (by omega) h3⟩ (by omega)
      rw [← rz_succ k] at h9
      exact ev_ps 2 rfl h9
    refine ev_ps 2 rfl (ev_ic (cd := .ge) rfl (fun h => ?_) (fun h => ?_))
    · have hkn : 4 ≤ k := rn_ge_t (k := 4) (by omega) (by omega) h
      exact hK _ (fun j h1 h2 h3 => hag j h1 (by omega) h3)
    have hk' : k < 4 := rn_ge_f (k := 4) (by omega) (by omega) h
    have ek := rz_clamp (k := k) (by omega)
    refine ev_ps 6 rfl (ev_ic (cd := .ne) rfl (fun h => next hk' (fun hon => absurd hon (rc_ne_t h))) (fun h => ?_))
    have hon : rz_on z k := rc_ne_f h
    refine ev_ps 3 rfl (ev_ald rfl rfl (rz_in hk' (by decide)) ?_)
    refine ev_ps 3 rfl (ev_ald rfl rfl (rz_in hk' (by decide)) ?_)
    refine ev_ic (cd := .eq) rfl (fun h => next hk' (fun _ => ?_)) (fun h => ?_)
    · have h5 := rc_eq_t h
      rw [ek] at h5
      rw [← hf2 k hk', ← hf1 k hk']
      exact h5
    · refine ev_ps 1 rfl (ev_ret rfl rfl ⟨⟨0, Or.inl rfl, ⟨fun q => absurd q (by decide), fun hh => absurd ?_ (rc_eq_f h)⟩, rfl⟩, f1, f2, rfl⟩)
      rw [ek]
      have h6 := hh s hs k hk1 hk' hon
      rw [← hf2 k hk', ← hf1 k hk'] at h6
      exact h6
  refine ev_ps 2 rfl (ev_w (w2 := rz_w v (rz_ua (rz_ua a 27 (a 27)) 28 (a 28)) g) rfl ?_)
  refine ev_loop (α := Nat × Option Value × (Nat → Int32) × (Nat → Int32)) (fun r => 4096 - r.1) (fun r => r.1 ≤ 4096 ∧ ∀ s, s < r.1 → ∀ k, 1 ≤ k → k < 4 → rz_on z k → rz_sq R1 p n (rz_bg s) k = rz_sq R2 q m (rz_bg s) k) (fun r => [some (.ref 25), some (.int (Int32.ofNat p)), some (.int (Int32.ofNat n)), some (.int (Int32.ofNat q)), some (.int (Int32.ofNat m)), some (.int z), some (.int (Int32.ofNat r.1)), r.2.1]) (fun _ => []) (fun r => rz_w v (rz_ua (rz_ua a 27 r.2.2.1) 28 r.2.2.2) g) ?_ (0, none, a 27, a 28) ⟨Nat.zero_le _, fun s hs => absurd hs (Nat.not_lt_zero _)⟩
  rintro ⟨s, t7, f1, f2⟩ ⟨hs, hag⟩ ih
  dsimp only at hs hag ih ⊢
  refine ev_ps 2 rfl (ev_ic (cd := .ge) rfl (fun h => ?_) (fun h => ?_))
  · have hsn : 4096 ≤ s := rn_ge_t (k := 4096) (by omega) (by omega) h
    exact ev_ps 1 rfl (ev_ret rfl rfl ⟨⟨1, Or.inr rfl, ⟨fun _ t ht => hag t (by omega), fun _ => rfl⟩, rfl⟩, f1, f2, rfl⟩)
  · have hs' : s < 4096 := rn_ge_f (k := 4096) (by omega) (by omega) h
    refine ev_ps 2 rfl (ev_call (av := [_, _]) rfl rfl rfl rfl ⟨Nat.le_of_ble_eq_true rfl, rfl⟩ ⟨Nat.le_of_ble_eq_true rfl, Nat.le_of_ble_eq_true rfl⟩ (m_beginX s) ?_)
    rintro _ _ ⟨rfl, f, rfl, hf⟩
    refine ev_w (w2 := rz_w v (rz_ua (rz_ua a 27 f) 28 f2) g) rfl (ev_ps 2 rfl (D1 s f f2 hf (fun t7 f3 hf3 => ?_)))
    refine ev_ps 2 rfl (D2 s f3 f2 (fun t7 f4 hf4 => ?_))
    refine ev_ps 2 rfl (ev_call (av := [_, _]) rfl rfl rfl rfl ⟨Nat.le_of_ble_eq_true rfl, rfl⟩ ⟨Nat.le_of_ble_eq_true rfl, Nat.le_of_ble_eq_true rfl⟩ (m_beginX s) ?_)
    rintro _ _ ⟨rfl, f5, rfl, hf5⟩
    refine ev_w (w2 := rz_w v (rz_ua (rz_ua a 27 f5) 28 f4) g) rfl (ev_ps 2 rfl (D3 s f5 f4 hf5 (fun t7 f6 hf6 => ?_)))
    refine ev_ps 2 rfl (D4 s hs' f6 f4 hf6 (fun j hj => (hf4 j hj).trans (hf3 j hj)) (fun t7 hall => ?_))
    have h9 := ih (s + 1, t7, f6, f4) ⟨by show s + 1 ≤ 4096; omega, fun t ht => by
      by_cases hts : t = s
      · rw [hts]; exact hall
      · exact hag t (by have : t < s + 1 := ht; omega)⟩ (by show 4096 - (s + 1) < 4096 - s; omega)
    dsimp only at h9
    rw [← rz_succ s] at h9
    exact ev_ps 2 rfl h9
end RZX1
