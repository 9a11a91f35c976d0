/-! the reference, exactly: a row done, two rows held against each other -/
section RZX1
variable {xs : Nat → Int32} {xl : Nat} {v : Nat → Int32} {a : Nat → Nat → Int32} {g : Nat → Int64} {w : rz_W}
def rz_bx (w : rz_W) (P : Prop) : rz_R → rz_W → Prop := fun q w' => (∃ u : Int32, (u = 0 ∨ u = 1) ∧ (u = 1 ↔ P) ∧ q = .inl (some (.int u))) ∧ w' = w
theorem rz_bx0 {P : Prop} (h : ¬ P) : rz_bx w P (.inl (some (.int 0))) w := ⟨⟨0, Or.inl rfl, ⟨fun h => absurd h (by decide), fun q => absurd q h⟩, rfl⟩, rfl⟩
theorem rz_bx1 {P : Prop} (h : P) : rz_bx w P (.inl (some (.int 1))) w := ⟨⟨1, Or.inr rfl, ⟨fun _ => h, fun _ => rfl⟩, rfl⟩, rfl⟩
/-- row k of the reference's arrays is q -/
def rz_rw (a : Nat → Nat → Int32) (k : Nat) (q : rz_Q) : Prop := rz_lg q ∧ a 20 k = Int32.ofNat q.1 ∧ a 21 k = Int32.ofNat q.2.1 ∧ a 22 k = Int32.ofNat q.2.2.1 ∧ a 23 k = Int32.ofNat q.2.2.2
theorem rz_rw.li {k : Nat} {q : rz_Q} (h : rz_rw a k q) : rz_li a k := ⟨_, _, _, _, h.2.1, h.2.2.1, h.2.2.2.1, h.2.2.2.2, h.1.1, h.1.2.1, h.1.2.2.1, h.1.2.2.2.1, h.1.2.2.2.2⟩
theorem rz_sp_cg {q : rz_Q} (hq : rz_lg q) {f x : Nat → Int32} (h : ∀ j, j < 4 → f j = x j) : ∀ j, j < 4 → rz_sp q f j = rz_sp q x j := by
  intro j hj
  unfold rz_sp
  rw [h q.2.2.1 (by have := hq.2.2.1; omega), h j hj]
  by_cases h5 : q.1 ≤ 5
  · rw [if_pos h5, if_pos h5, h q.2.2.2 (by have := hq.2.2.2.2 h5; omega)]
  · rw [if_neg h5, if_neg h5]
theorem m_madeX {k : Nat} (hk : k < 16) (x y : Int32) : rz_C xs xl 83 [.int (Int32.ofNat k), .int x, .int y] w (fun q w' => q = .inl (some (.int (rz_made k x y))) ∧ w' = w) := by
  rcases (show k = 0 ∨ k = 1 ∨ k = 2 ∨ k = 3 ∨ k = 4 ∨ k = 5 ∨ k = 6 ∨ k = 7 ∨ k = 8 ∨ k = 9 ∨ k = 10 ∨ k = 11 ∨ k = 12 ∨ k = 13 ∨ k = 14 ∨ k = 15 by omega) with rfl | rfl | rfl | rfl | rfl | rfl | rfl | rfl | rfl | rfl | rfl | rfl | rfl | rfl | rfl | rfl
  · exact ev_ps 10 rfl (ev_ret rfl rfl ⟨rfl, rfl⟩)
  · exact ev_ps 16 rfl (ev_ret rfl rfl ⟨rfl, rfl⟩)
  · exact ev_ps 19 rfl (ev_ret rfl rfl ⟨rfl, rfl⟩)
  · exact ev_ps 25 rfl (ev_ret rfl rfl ⟨rfl, rfl⟩)
  · exact ev_ps 28 rfl (ev_ret rfl rfl ⟨rfl, rfl⟩)
  · refine ev_ps 28 rfl (ev_ic (cd := .ge) rfl (fun h => ?_) (fun h => ?_))
    · exact ev_ps 6 rfl (ev_ret rfl rfl ⟨by rw [rz_made, if_neg (by decide), if_neg (by decide), if_neg (by decide), if_neg (by decide), if_neg (by decide), if_pos rfl, if_neg (fun q => Int32.not_lt.mpr (rc_ge_t h) q)]; rfl, rfl⟩)
    · exact ev_ps 6 rfl (ev_ret rfl rfl ⟨by rw [rz_made, if_neg (by decide), if_neg (by decide), if_neg (by decide), if_neg (by decide), if_neg (by decide), if_pos rfl, if_pos (Int32.not_le.mp (rc_ge_f h))]; rfl, rfl⟩)
  · exact ev_ps 13 rfl (ev_ret rfl rfl ⟨rfl, rfl⟩)
  · exact ev_ps 22 rfl (ev_ret rfl rfl ⟨rfl, rfl⟩)
  · exact ev_ps 31 rfl (ev_ret rfl rfl ⟨rfl, rfl⟩)
  · exact ev_ps 33 rfl (ev_ret rfl rfl ⟨rfl, rfl⟩)
  · exact ev_ps 33 rfl (ev_ret rfl rfl ⟨rfl, rfl⟩)
  · exact ev_ps 33 rfl (ev_ret rfl rfl ⟨rfl, rfl⟩)
  · exact ev_ps 33 rfl (ev_ret rfl rfl ⟨rfl, rfl⟩)
  · exact ev_ps 33 rfl (ev_ret rfl rfl ⟨rfl, rfl⟩)
  · exact ev_ps 33 rfl (ev_ret rfl rfl ⟨rfl, rfl⟩)
  · exact ev_ps 33 rfl (ev_ret rfl rfl ⟨rfl, rfl⟩)
theorem m_doesX {k : Nat} {q : rz_Q} (hk : k < 25) (hr : rz_rw a k q) : rz_C xs xl 82 [.ref 25, .int (Int32.ofNat k)] (rz_w v a g) (fun r w' => r = .inl none ∧ w' = rz_w v (rz_ua a 27 (rz_sp q (a 27))) g) := by
  obtain ⟨⟨b1, b2, b3, b4, b5⟩, ho, hd, hs, ht⟩ := hr
  have e := rz_clamp (k := k) (by omega)
  rw [← e] at ho hd hs ht
  have hin : ¬ (Int32.ofNat k < 0 ∨ 25 ≤ (Int32.ofNat k).toNatClampNeg) := rz_in hk (by decide)
  have tail : ∀ b : Int32, b = (if q.1 ≤ 5 then a 27 q.2.2.2 else Int32.ofNat q.2.2.2) → rz_E xs xl 82 33 [some (.ref 25), some (.int (Int32.ofNat k)), some (.int (Int32.ofNat q.1)), none, none] [.int b] (rz_w v a g) 0 0 (fun r w' => r = .inl none ∧ w' = rz_w v (rz_ua a 27 (rz_sp q (a 27))) g) := by
    intro b hb
    refine ev_ps 7 rfl (ev_ald rfl rfl hin ?_)
    rw [hs]
    refine ev_ald rfl rfl (rz_in (by omega) (by decide)) ?_
    rw [rz_clamp (k := q.2.2.1) (by omega)]
    refine ev_ps 1 rfl (ev_call (av := [_, _, _]) rfl rfl rfl rfl ⟨Nat.le_of_ble_eq_true rfl, rfl⟩ ⟨Nat.le_of_ble_eq_true rfl, Nat.le_of_ble_eq_true rfl⟩ (m_madeX (by omega) _ _) ?_)
    rintro _ _ ⟨rfl, rfl⟩
    refine ev_ps 6 rfl (ev_ald rfl rfl hin ?_)
    refine ev_ps 3 rfl (ev_ald rfl rfl hin ?_)
    rw [hd]
    refine ev_if (cd := .ne) rfl (fun h => ?_) (fun h => ?_)
    · refine ev_ps 1 rfl (ev_ast rfl rfl (rz_in (by omega) (by decide)) ?_)
      refine ev_ret rfl rfl ⟨rfl, ?_⟩
      rw [rz_clamp (by omega)]
      have h0 : ¬ q.2.1 = 0 := fun z => rc_ne_t h (by rw [z]; rfl)
      have e2 : rz_sp q (a 27) = upd (a 27) q.2.1 (rz_made q.1 (a 27 q.2.2.1) b) := by
        funext j
        unfold rz_sp upd
        rw [if_neg h0, hb]
      rw [e2]
      rfl
    · refine ev_ps 2 rfl (ev_ast rfl rfl (rz_in (by omega) (by decide)) ?_)
      refine ev_ret rfl rfl ⟨rfl, ?_⟩
      rw [rz_clamp (by omega)]
      have h0 : q.2.1 = 0 := (rz_eq_iff (k := 0) (by omega) (by omega)).mp (rc_ne_f h)
      have e2 : rz_sp q (a 27) = upd (a 27) q.2.1 0 := by
        funext j
        unfold rz_sp upd
        rw [if_pos h0]
      rw [e2]
      rfl
  refine ev_ps 3 rfl (ev_ald rfl rfl hin ?_)
  rw [ho]
  refine ev_ps 3 rfl (ev_ic (cd := .ge) rfl (fun h => ?_) (fun h => ?_))
  · have h6 : 6 ≤ q.1 := rn_ge_t (k := 6) (by omega) (by omega) h
    refine ev_ps 3 rfl (ev_ald rfl rfl hin ?_)
    rw [ht]
    exact tail _ (by rw [if_neg (by omega)])
  · have h6 : q.1 < 6 := rn_ge_f (k := 6) (by omega) (by omega) h
    refine ev_ps 5 rfl (ev_ald rfl rfl hin ?_)
    rw [ht]
    refine ev_ald rfl rfl (rz_in (by have := b5 (by omega); omega) (by decide)) ?_
    exact ev_ps 1 rfl (tail _ (by rw [if_pos (by omega), rz_clamp (by omega)]))
theorem m_beginX (s : Nat) : rz_C xs xl 96 [.ref 25, .int (Int32.ofNat s)] (rz_w v a g) (fun q w' => q = .inl none ∧ ∃ f, w' = rz_w v (rz_ua a 27 f) g ∧ ∀ j, j < 4 → f j = rz_bg s j) := by
  refine ev_ps 4 rfl (ev_ast rfl rfl (by decide) ?_)
  refine ev_w (w2 := rz_w v (rz_ua a 27 (upd (a 27) _ _)) g) rfl ?_
  refine ev_ps 6 rfl (ev_ast rfl rfl (by decide) ?_)
  refine ev_w (w2 := rz_w v (rz_ua a 27 (upd (upd (a 27) _ _) _ _)) g) rfl ?_
  refine ev_ps 8 rfl (ev_ast rfl rfl (by decide) ?_)
  refine ev_w (w2 := rz_w v (rz_ua a 27 (upd (upd (upd (a 27) _ _) _ _) _ _)) g) rfl ?_
  refine ev_ps 6 rfl (ev_ast rfl rfl (by decide) ?_)
  refine ev_w (w2 := rz_w v (rz_ua a 27 (upd (upd (upd (upd (a 27) _ _) _ _) _ _) _ _)) g) rfl (ev_ret rfl rfl ⟨rfl, _, rfl, fun j hj => ?_⟩)
  rcases (show j = 0 ∨ j = 1 ∨ j = 2 ∨ j = 3 by omega) with rfl | rfl | rfl | rfl <;> rfl
theorem m_agreeX {p n q m : Nat} {R1 R2 : Nat → rz_Q} (z : Int32) (hp : p + n ≤ 25) (hq : q + m ≤ 25) (h1 : ∀ k, k < n → rz_rw a (p + k) (R1 (p + k))) (h2 : ∀ k, k < m → rz_rw a (q + k) (R2 (q + k))) : rz_C xs xl 95 [.ref 25, .int (Int32.ofNat p), .int (Int32.ofNat n), .int (Int32.ofNat q), .int (Int32.ofNat m), .int z] (rz_w v a g) (fun r w' => (∃ u : Int32, (u = 0 ∨ u = 1) ∧ (u = 1 ↔ rz_ag (rz_sq R1 p n) (rz_sq R2 q m) z) ∧ r = .inl (some (.int u))) ∧ ∃ f1 f2, w' = rz_w v (rz_ua (rz_ua a 27 f1) 28 f2) g) := by
  have D1 : ∀ (s : Nat) (f1 f2 : Nat → Int32), (∀ j, j < 4 → f1 j = rz_bg s j) → (∀ (t7 : Option Value) (f : Nat → Int32), (∀ j, j < 4 → f j = rz_sq R1 p n (rz_bg s) j) → rz_E xs xl 95 40 [some (.ref 25), some (.int (Int32.ofNat p)), some (.int (Int32.ofNat n)), some (.int (Int32.ofNat q)), some (.int (Int32.ofNat m)), some (.int z), some (.int (Int32.ofNat s)), t7] [] (rz_w v (rz_ua (rz_ua a 27 f) 28 f2) g) 0 0 (fun r w' => (∃ u : Int32, (u = 0 ∨ u = 1) ∧ (u = 1 ↔ rz_ag (rz_sq R1 p n) (rz_sq R2 q m) z) ∧ r = .inl (some (.int u))) ∧ ∃ f1 f2, w' = rz_w v (rz_ua (rz_ua a 27 f1) 28 f2) g)) → rz_E xs xl 95 20 [some (.ref 25), some (.int (Int32.ofNat p)), some (.int (Int32.ofNat n)), some (.int (Int32.ofNat q)), some (.int (Int32.ofNat m)), some (.int z), some (.int (Int32.ofNat s)), some (.int (Int32.ofNat 0))] [] (rz_w v (rz_ua (rz_ua a 27 f1) 28 f2) g) 0 0 (fun r w' => (∃ u : Int32, (u = 0 ∨ u = 1) ∧ (u = 1 ↔ rz_ag (rz_sq R1 p n) (rz_sq R2 q m) z) ∧ r = .inl (some (.int u))) ∧ ∃ f1 f2, w' = rz_w v (rz_ua (rz_ua a 27 f1) 28 f2) g) := by
    intro s f1 f2 hf1 hK
    refine ev_loop (α := Nat × (Nat → Int32)) (fun r => n - r.1) (fun r => r.1 ≤ n ∧ ∀ j, j < 4 → r.2 j = rz_sq R1 p r.1 (rz_bg s) j) (fun r => [some (.ref 25), some (.int (Int32.ofNat p)), some (.int (Int32.ofNat n)), some (.int (Int32.ofNat q)), some (.int (Int32.ofNat m)), some (.int z), some (.int (Int32.ofNat s)), some (.int (Int32.ofNat r.1))]) (fun _ => []) (fun r => rz_w v (rz_ua (rz_ua a 27 r.2) 28 f2) g) ?_ (0, f1) ⟨Nat.zero_le _, hf1⟩
    rintro ⟨k, f⟩ ⟨hk, hf⟩ ih
    dsimp only at hk hf ih ⊢
    refine ev_ps 2 rfl (ev_ic (cd := .ge) rfl (fun h => ?_) (fun h => ?_))
    · have hkn : n ≤ k := rn_ge_t (by omega) (by omega) h
      have e : k = n := by omega
      subst e
      exact hK _ _ hf
    have hk' : k < n := rn_ge_f (by omega) (by omega) h
    have hrow := h1 k hk'
    refine ev_ps 4 rfl ?_
    refine ev_call (av := [.ref 25, .int (Int32.ofNat (p + k))]) rfl (by rw [← rz_add]; rfl) rfl rfl ⟨Nat.le_of_ble_eq_true rfl, rfl⟩ ⟨Nat.le_of_ble_eq_true rfl, Nat.le_of_ble_eq_true rfl⟩ (m_doesX (a := rz_ua (rz_ua a 27 f) 28 f2) (by omega) hrow) ?_
    rintro _ _ ⟨rfl, rfl⟩
    have h9 := ih (k + 1, rz_sp (R1 (p + k)) f) ⟨by show k + 1 ≤ n; omega, rz_sp_cg hrow.1 hf⟩ (by show n - (k + 1) < n - k; omega)
    dsimp only at h9
    rw [← rz_succ k] at h9
    exact ev_w (w2 := rz_w v (rz_ua (rz_ua a 27 (rz_sp (R1 (p + k)) f)) 28 f2) g) rfl (ev_ps 2 rfl h9)
  have D3 : ∀ (s : Nat) (f1 f2 : Nat → Int32), (∀ j, j < 4 → f1 j = rz_bg s j) → (∀ (t7 : Option Value) (f : Nat → Int32), (∀ j, j < 4 → f j = rz_sq R2 q m (rz_bg s) j) → rz_E xs xl 95 99 [some (.ref 25), some (.int (Int32.ofNat p)), some (.int (Int32.ofNat n)), some (.int (Int32.ofNat q)), some (.int (Int32.ofNat m)), some (.int z), some (.int (Int32.ofNat s)), t7] [] (rz_w v (rz_ua (rz_ua a 27 f) 28 f2) g) 0 0 (fun r w' => (∃ u : Int32, (u = 0 ∨ u = 1) ∧ (u = 1 ↔ rz_ag (rz_sq R1 p n) (rz_sq R2 q m) z) ∧ r = .inl (some (.int u))) ∧ ∃ f1 f2, w' = rz_w v (rz_ua (rz_ua a 27 f1) 28 f2) g)) → rz_E xs xl 95 78 [some (.ref 25), some (.int (Int32.ofNat p)), some (.int (Int32.ofNat n)), some (.int (Int32.ofNat q)), some (.int (Int32.ofNat m)), some (.int z), some (.int (Int32.ofNat s)), some (.int (Int32.ofNat 0))] [] (rz_w v (rz_ua (rz_ua a 27 f1) 28 f2) g) 0 0 (fun r w' => (∃ u : Int32, (u = 0 ∨ u = 1) ∧ (u = 1 ↔ rz_ag (rz_sq R1 p n) (rz_sq R2 q m) z) ∧ r = .inl (some (.int u))) ∧ ∃ f1 f2, w' = rz_w v (rz_ua (rz_ua a 27 f1) 28 f2) g) := by
    intro s f1 f2 hf1 hK
    refine ev_loop (α := Nat × (Nat → Int32)) (fun r => m - r.1) (fun r => r.1 ≤ m ∧ ∀ j, j < 4 → r.2 j = rz_sq R2 q r.1 (rz_bg s) j) (fun r => [some (.ref 25), some (.int (Int32.ofNat p)), some (.int (Int32.ofNat n)), some (.int (Int32.ofNat q)), some (.int (Int32.ofNat m)), some (.int z), some (.int (Int32.ofNat s)), some (.int (Int32.ofNat r.1))]) (fun _ => []) (fun r => rz_w v (rz_ua (rz_ua a 27 r.2) 28 f2) g) ?_ (0, f1) ⟨Nat.zero_le _, hf1⟩
    rintro ⟨k, f⟩ ⟨hk, hf⟩ ih
    dsimp only at hk hf ih ⊢
    refine ev_ps 2 rfl (ev_ic (cd := .ge) rfl (fun h => ?_) (fun h => ?_))
    · have hkn : m ≤ k := rn_ge_t (by omega) (by omega) h
      have e : k = m := by omega
      subst e
      exact hK _ _ hf
    have hk' : k < m := rn_ge_f (by omega) (by omega) h
    have hrow := h2 k hk'
    refine ev_ps 4 rfl ?_
    refine ev_call (av := [.ref 25, .int (Int32.ofNat (q + k))]) rfl (by rw [← rz_add]; rfl) rfl rfl ⟨Nat.le_of_ble_eq_true rfl, rfl⟩ ⟨Nat.le_of_ble_eq_true rfl, Nat.le_of_ble_eq_true rfl⟩ (m_doesX (a := rz_ua (rz_ua a 27 f) 28 f2) (by omega) hrow) ?_
    rintro _ _ ⟨rfl, rfl⟩
    have h9 := ih (k + 1, rz_sp (R2 (q + k)) f) ⟨by show k + 1 ≤ m; omega, rz_sp_cg hrow.1 hf⟩ (by show m - (k + 1) < m - k; omega)
    dsimp only at h9
    rw [← rz_succ k] at h9
    exact ev_w (w2 := rz_w v (rz_ua (rz_ua a 27 (rz_sp (R2 (q + k)) f)) 28 f2) g) rfl (ev_ps 2 rfl h9)
  have D2 : ∀ (s : Nat) (f1 f2 : Nat → Int32), (∀ (t7 : Option Value) (f : Nat → Int32), (∀ j, j < 4 → f j = f1 j) → rz_E xs xl 95 69 [some (.ref 25), some (.int (Int32.ofNat p)), some (.int (Int32.ofNat n)), some (.int (Int32.ofNat q)), some (.int (Int32.ofNat m)), some (.int z), some (.int (Int32.ofNat s)), t7] [] (rz_w v (rz_ua (rz_ua a 27 f1) 28 f) g) 0 0 (fun r w' => (∃ u : Int32, (u = 0 ∨ u = 1) ∧ (u = 1 ↔ rz_ag (rz_sq R1 p n) (rz_sq R2 q m) z) ∧ r = .inl (some (.int u))) ∧ ∃ f1 f2, w' = rz_w v (rz_ua (rz_ua a 27 f1) 28 f2) g)) → rz_E xs xl 95 43 [some (.ref 25), some (.int (Int32.ofNat p)), some (.int (Int32.ofNat n)), some (.int (Int32.ofNat q)), some (.int (Int32.ofNat m)), some (.int z), some (.int (Int32.ofNat s)), some (.int (Int32.ofNat 0))] [] (rz_w v (rz_ua (rz_ua a 27 f1) 28 f2) g) 0 0 (fun r w' => (∃ u : Int32, (u = 0 ∨ u = 1) ∧ (u = 1 ↔ rz_ag (rz_sq R1 p n) (rz_sq R2 q m) z) ∧ r = .inl (some (.int u))) ∧ ∃ f1 f2, w' = rz_w v (rz_ua (rz_ua a 27 f1) 28 f2) g) := by
    intro s f1 f2 hK
    refine ev_loop (α := Nat × (Nat → Int32)) (fun r => 4 - r.1) (fun r => r.1 ≤ 4 ∧ ∀ j, j < r.1 → r.2 j = f1 j) (fun r => [some (.ref 25), some (.int (Int32.ofNat p)), some (.int (Int32.ofNat n)), some (.int (Int32.ofNat q)), some (.int (Int32.ofNat m)), some (.int z), some (.int (Int32.ofNat s)), some (.int (Int32.ofNat r.1))]) (fun _ => []) (fun r => rz_w v (rz_ua (rz_ua a 27 f1) 28 r.2) g) ?_ (0, f2) ⟨Nat.zero_le _, fun j hj => absurd hj (Nat.not_lt_zero _)⟩
    rintro ⟨k, f⟩ ⟨hk, hf⟩ ih
    dsimp only at hk hf ih ⊢
    refine ev_ps 2 rfl (ev_ic (cd := .ge) rfl (fun h => ?_) (fun h => ?_))
    · have hkn : 4 ≤ k := rn_ge_t (k := 4) (by omega) (by omega) h
      exact hK _ _ (fun j hj => hf j (by omega))
    have hk' : k < 4 := rn_ge_f (k := 4) (by omega) (by omega) h
    refine ev_ps 6 rfl (ev_ald rfl rfl (rz_in hk' (by decide)) ?_)
    refine ev_ast rfl rfl (rz_in hk' (by decide)) ?_
    rw [rz_clamp (k := k) (by omega)]
    have h9 := ih (k + 1, upd f k (f1 k)) ⟨by show k + 1 ≤ 4; omega, fun j hj => by
      by_cases hjk : j = k
      · simp [upd, hjk]
      · simp only [upd, hjk, if_false]; exact hf j (by have : j < k + 1 := hj; omega)⟩ (by show 4 - (k + 1) < 4 - k; omega)
    dsimp only at h9
    rw [← rz_succ k] at h9
    exact ev_w (w2 := rz_w v (rz_ua (rz_ua a 27 f1) 28 (upd f k (f1 k))) g) rfl (ev_ps 2 rfl h9)
  have D4 : ∀ (s : Nat), s < 4096 → ∀ (f1 f2 : Nat → Int32), (∀ j, j < 4 → f1 j = rz_sq R2 q m (rz_bg s) j) → (∀ j, j < 4 → f2 j = rz_sq R1 p n (rz_bg s) j) → (∀ (t7 : Option Value), (∀ k, 1 ≤ k → k < 4 → rz_on z k → rz_sq R1 p n (rz_bg s) k = rz_sq R2 q m (rz_bg s) k) → rz_E xs xl 95 144 [some (.ref 25), some (.int (Int32.ofNat p)), some (.int (Int32.ofNat n)), some (.int (Int32.ofNat q)), some (.int (Int32.ofNat m)), some (.int z), some (.int (Int32.ofNat s)), t7] [] (rz_w v (rz_ua (rz_ua a 27 f1) 28 f2) g) 0 0 (fun r w' => (∃ u : Int32, (u = 0 ∨ u = 1) ∧ (u = 1 ↔ rz_ag (rz_sq R1 p n) (rz_sq R2 q m) z) ∧ r = .inl (some (.int u))) ∧ ∃ f1 f2, w' = rz_w v (rz_ua (rz_ua a 27 f1) 28 f2) g)) → rz_E xs xl 95 102 [some (.ref 25), some (.int (Int32.ofNat p)), some (.int (Int32.ofNat n)), some (.int (Int32.ofNat q)), some (.int (Int32.ofNat m)), some (.int z), some (.int (Int32.ofNat s)), some (.int (Int32.ofNat 1))] [] (rz_w v (rz_ua (rz_ua a 27 f1) 28 f2) g) 0 0 (fun r w' => (∃ u : Int32, (u = 0 ∨ u = 1) ∧ (u = 1 ↔ rz_ag (rz_sq R1 p n) (rz_sq R2 q m) z) ∧ r = .inl (some (.int u))) ∧ ∃ f1 f2, w' = rz_w v (rz_ua (rz_ua a 27 f1) 28 f2) g) := by
    intro s hs f1 f2 hf1 hf2 hK
    refine ev_loop (α := Nat) (fun r => 4 - r) (fun r => 1 ≤ r ∧ r ≤ 4 ∧ ∀ k, 1 ≤ k → k < r → rz_on z k → rz_sq R1 p n (rz_bg s) k = rz_sq R2 q m (rz_bg s) k) (fun r => [some (.ref 25), some (.int (Int32.ofNat p)), some (.int (Int32.ofNat n)), some (.int (Int32.ofNat q)), some (.int (Int32.ofNat m)), some (.int z), some (.int (Int32.ofNat s)), some (.int (Int32.ofNat r))]) (fun _ => []) (fun r => rz_w v (rz_ua (rz_ua a 27 f1) 28 f2) g) ?_ 1 ⟨Nat.le_refl _, by omega, fun k h1 h2 => absurd h2 (by omega)⟩
    rintro k ⟨hk1, hk, hag⟩ ih
    have next : k < 4 → (rz_on z k → rz_sq R1 p n (rz_bg s) k = rz_sq R2 q m (rz_bg s) k) → rz_E xs xl 95 138 [some (.ref 25), some (.int (Int32.ofNat p)), some (.int (Int32.ofNat n)), some (.int (Int32.ofNat q)), some (.int (Int32.ofNat m)), some (.int z), some (.int (Int32.ofNat s)), some (.int (Int32.ofNat k))] [] (rz_w v (rz_ua (rz_ua a 27 f1) 28 f2) g) 0 0 (fun r w' => (∃ u : Int32, (u = 0 ∨ u = 1) ∧ (u = 1 ↔ rz_ag (rz_sq R1 p n) (rz_sq R2 q m) z) ∧ r = .inl (some (.int u))) ∧ ∃ f1 f2, w' = rz_w v (rz_ua (rz_ua a 27 f1) 28 f2) g) := fun hk' hon => by
      have h9 := ih (k + 1) ⟨by omega, by omega, fun j h1 h2 h3 => by
        by_cases hjk : j = k
        · rw [hjk] at h3 ⊢; exact hon h3
        · exact hag j h1 (by omega) h3⟩ (by omega)
      rw [← rz_succ k] at h9
      exact ev_ps 2 rfl h9
    refine ev_ps 2 rfl (ev_ic (cd := .ge) rfl (fun h => ?_) (fun h => ?_))
    · have hkn : 4 ≤ k := rn_ge_t (k := 4) (by omega) (by omega) h
      exact hK _ (fun j h1 h2 h3 => hag j h1 (by omega) h3)
    have hk' : k < 4 := rn_ge_f (k := 4) (by omega) (by omega) h
    have ek := rz_clamp (k := k) (by omega)
    refine ev_ps 6 rfl (ev_ic (cd := .ne) rfl (fun h => next hk' (fun hon => absurd hon (rc_ne_t h))) (fun h => ?_))
    have hon : rz_on z k := rc_ne_f h
    refine ev_ps 3 rfl (ev_ald rfl rfl (rz_in hk' (by decide)) ?_)
    refine ev_ps 3 rfl (ev_ald rfl rfl (rz_in hk' (by decide)) ?_)
    refine ev_ic (cd := .eq) rfl (fun h => next hk' (fun _ => ?_)) (fun h => ?_)
    · have h5 := rc_eq_t h
      rw [ek] at h5
      rw [← hf2 k hk', ← hf1 k hk']
      exact h5
    · refine ev_ps 1 rfl (ev_ret rfl rfl ⟨⟨0, Or.inl rfl, ⟨fun q => absurd q (by decide), fun hh => absurd ?_ (rc_eq_f h)⟩, rfl⟩, f1, f2, rfl⟩)
      rw [ek]
      have h6 := hh s hs k hk1 hk' hon
      rw [← hf2 k hk', ← hf1 k hk'] at h6
      exact h6
  refine ev_ps 2 rfl (ev_w (w2 := rz_w v (rz_ua (rz_ua a 27 (a 27)) 28 (a 28)) g) rfl ?_)
  refine ev_loop (α := Nat × Option Value × (Nat → Int32) × (Nat → Int32)) (fun r => 4096 - r.1) (fun r => r.1 ≤ 4096 ∧ ∀ s, s < r.1 → ∀ k, 1 ≤ k → k < 4 → rz_on z k → rz_sq R1 p n (rz_bg s) k = rz_sq R2 q m (rz_bg s) k) (fun r => [some (.ref 25), some (.int (Int32.ofNat p)), some (.int (Int32.ofNat n)), some (.int (Int32.ofNat q)), some (.int (Int32.ofNat m)), some (.int z), some (.int (Int32.ofNat r.1)), r.2.1]) (fun _ => []) (fun r => rz_w v (rz_ua (rz_ua a 27 r.2.2.1) 28 r.2.2.2) g) ?_ (0, none, a 27, a 28) ⟨Nat.zero_le _, fun s hs => absurd hs (Nat.not_lt_zero _)⟩
  rintro ⟨s, t7, f1, f2⟩ ⟨hs, hag⟩ ih
  dsimp only at hs hag ih ⊢
  refine ev_ps 2 rfl (ev_ic (cd := .ge) rfl (fun h => ?_) (fun h => ?_))
  · have hsn : 4096 ≤ s := rn_ge_t (k := 4096) (by omega) (by omega) h
    exact ev_ps 1 rfl (ev_ret rfl rfl ⟨⟨1, Or.inr rfl, ⟨fun _ t ht => hag t (by omega), fun _ => rfl⟩, rfl⟩, f1, f2, rfl⟩)
  · have hs' : s < 4096 := rn_ge_f (k := 4096) (by omega) (by omega) h
    refine ev_ps 2 rfl (ev_call (av := [_, _]) rfl rfl rfl rfl ⟨Nat.le_of_ble_eq_true rfl, rfl⟩ ⟨Nat.le_of_ble_eq_true rfl, Nat.le_of_ble_eq_true rfl⟩ (m_beginX s) ?_)
    rintro _ _ ⟨rfl, f, rfl, hf⟩
    refine ev_w (w2 := rz_w v (rz_ua (rz_ua a 27 f) 28 f2) g) rfl (ev_ps 2 rfl (D1 s f f2 hf (fun t7 f3 hf3 => ?_)))
    refine ev_ps 2 rfl (D2 s f3 f2 (fun t7 f4 hf4 => ?_))
    refine ev_ps 2 rfl (ev_call (av := [_, _]) rfl rfl rfl rfl ⟨Nat.le_of_ble_eq_true rfl, rfl⟩ ⟨Nat.le_of_ble_eq_true rfl, Nat.le_of_ble_eq_true rfl⟩ (m_beginX s) ?_)
    rintro _ _ ⟨rfl, f5, rfl, hf5⟩
    refine ev_w (w2 := rz_w v (rz_ua (rz_ua a 27 f5) 28 f4) g) rfl (ev_ps 2 rfl (D3 s f5 f4 hf5 (fun t7 f6 hf6 => ?_)))
    refine ev_ps 2 rfl (D4 s hs' f6 f4 hf6 (fun j hj => (hf4 j hj).trans (hf3 j hj)) (fun t7 hall => ?_))
    have h9 := ih (s + 1, t7, f6, f4) ⟨by show s + 1 ≤ 4096; omega, fun t ht => by
      by_cases hts : t = s
      · rw [hts]; exact hall
      · exact hag t (by have : t < s + 1 := ht; omega)⟩ (by show 4096 - (s + 1) < 4096 - s; omega)
    dsimp only at h9
    rw [← rz_succ s] at h9
    exact ev_ps 2 rfl h9
end RZX1
/-! the pure picture: blocks, rows, candidates, cutting, improving -/
def rz_bn (R : Nat → rz_Q) (n p : Nat) : Prop := p = 0 ∨ 12 ≤ (R (p - 1)).1 ∨ ∃ k, k < n ∧ 12 ≤ (R k).1 ∧ (R k).1 ≤ 14 ∧ (R k).2.2.2 = p
def rz_pl (R : Nat → rz_Q) (p m : Nat) : Prop := ∀ k, p ≤ k → k < p + m → (R k).1 ≤ 9
def rz_ir (R : Nat → rz_Q) (n p m : Nat) : Prop := p + m ≤ n ∧ rz_pl R p m ∧ ∀ k, p < k → k < p + m → ¬ rz_bn R n k
def rz_cd (R : Nat → rz_Q) (p m t : Nat) : Prop := t = 0 ∨ t = 1 ∨ t = 15 ∨ ∃ k, p ≤ k ∧ k < p + m ∧ 6 ≤ (R k).1 ∧ (R k).2.2.2 = t
def rz_cq (i : Nat) : rz_Q := (i / 192, 1 + i / 64 % 3, i / 16 % 4, i % 16)
def rz_ch (R : Nat → rz_Q) (p m i : Nat) : Prop := if i / 192 < 6 then i % 16 < 4 else rz_cd R p m (i % 16)
def rz_ht (R : Nat → rz_Q) (p m : Nat) (S : Int32) (i : Nat) : Prop := rz_ch R p m i ∧ rz_ag (rz_sq R p m) (rz_sp (rz_cq i)) S
def rz_nd (R : Nat → rz_Q) (p m : Nat) (S : Int32) : Prop := rz_ag (rz_sq R p m) (fun x => x) S
noncomputable def rz_dc (P : Prop) : Bool := @decide P (Classical.propDecidable P)
theorem rz_dc_t {P : Prop} (h : P) : rz_dc P = true := @decide_eq_true P (Classical.propDecidable P) h
theorem rz_dc_f {P : Prop} (h : ¬ P) : rz_dc P = false := @decide_eq_false P (Classical.propDecidable P) h
noncomputable def rz_fi (H : Nat → Prop) : Nat → Nat → Nat
  | 0, i => i
  | d + 1, i => if rz_dc (H i) = true then i else rz_fi H d (i + 1)
theorem rz_fi_eq {H : Nat → Prop} {j : Nat} (h1 : ∀ i, i < j → ¬ H i) (h2 : j < 1920 → H j) (hj : j ≤ 1920) : rz_fi H 1920 0 = j := by
  have key : ∀ d i, i + d = 1920 → i ≤ j → rz_fi H d i = j := by
    intro d
    induction d with
    | zero => intro i hi hij; rw [rz_fi]; omega
    | succ d ih =>
      intro i hi hij
      rw [rz_fi]
      by_cases he : i = j
      · rw [he, rz_dc_t (h2 (by omega)), if_pos rfl]
      · rw [rz_dc_f (h1 i (by omega)), if_neg (by decide)]
        exact ih (i + 1) (by omega) (by omega)
  exact key 1920 0 (by omega) (Nat.zero_le _)
/-- how many of the first j are candidates -/
noncomputable def rz_ct (C : Nat → Prop) : Nat → Nat
  | 0 => 0
  | j + 1 => rz_ct C j + (if rz_dc (C j) = true then 1 else 0)
noncomputable def rz_jx (R : Nat → rz_Q) (p m : Nat) (S : Int32) : Nat := rz_fi (rz_ht R p m S) 1920 0
def rz_S (R : Nat → rz_Q) (n k : Nat) : Int32 := rz_at n (rz_lv R n) k
abbrev rz_O : Type := Option (Nat × Option Nat)
/-- rows of m or fewer at p: which is replaced and by what; how many were looked at -/
noncomputable def rz_IM (R : Nat → rz_Q) (n p : Nat) : Nat → Nat → rz_O × Nat
  | 0, l => (none, l)
  | m + 1, l => if rz_dc (rz_ir R n p (m + 1)) = true then
      (if rz_dc (rz_nd R p (m + 1) (rz_S R n (p + (m + 1)))) = true then (some (m + 1, none), l + 1)
      else if 1 < m + 1 then (if rz_jx R p (m + 1) (rz_S R n (p + (m + 1))) < 1920 then (some (m + 1, some (rz_jx R p (m + 1) (rz_S R n (p + (m + 1))))), l + 1 + rz_ct (rz_ch R p (m + 1)) (rz_jx R p (m + 1) (rz_S R n (p + (m + 1))) + 1)) else rz_IM R n p m (l + 1 + rz_ct (rz_ch R p (m + 1)) 1920))
      else rz_IM R n p m (l + 1))
    else rz_IM R n p m l
def rz_mv (p less : Nat) (q : rz_Q) : rz_Q := if 12 ≤ q.1 ∧ q.1 ≤ 14 ∧ p < q.2.2.2 then (q.1, q.2.1, q.2.2.1, q.2.2.2 - less) else q
def rz_sh (R : Nat → rz_Q) (p m b : Nat) (q : rz_Q) : Nat → rz_Q := fun k => if k < p then R k else if k < p + b then q else R (k + (m - b))
def rz_cu (R : Nat → rz_Q) (p m b : Nat) (q : rz_Q) : Nat → rz_Q := fun k => rz_mv p (m - b) (rz_sh R p m b q k)
/-- what improving at p gives: the answer (-1: nothing), the program, its size, the three counts -/
noncomputable def rz_im (R : Nat → rz_Q) (n p r b l : Nat) : Int32 × (Nat → rz_Q) × Nat × Nat × Nat × Nat := match rz_IM R n p 3 l with
  | (none, l) => (-1, R, n, r, b, l)
  | (some (m, none), l) => (0, rz_cu R p m 0 (0, 0, 0, 0), n - m, r + 1, b + 1, l)
  | (some (m, some j), l) => (1, rz_cu R p m 1 (rz_cq j), n - (m - 1), r + 1, b, l)
/-- where improving goes on behind an answer -/
def rz_nx (p : Nat) (u : Int32) : Nat := if u = 0 then p else p + 1
noncomputable def rz_IP : Nat → (Nat → rz_Q) → Nat → Nat → Nat → Nat → Nat → (Nat → rz_Q) × Nat × Nat × Nat × Nat
  | 0, R, n, _, r, b, l => (R, n, r, b, l)
  | d + 1, R, n, p, r, b, l => if p < n then rz_IP d (rz_im R n p r b l).2.1 (rz_im R n p r b l).2.2.1 (rz_nx p (rz_im R n p r b l).1) (rz_im R n p r b l).2.2.2.1 (rz_im R n p r b l).2.2.2.2.1 (rz_im R n p r b l).2.2.2.2.2 else (R, n, r, b, l)
theorem rz_IP_end {d n p r b l : Nat} {R : Nat → rz_Q} (h : n ≤ p) : rz_IP d R n p r b l = (R, n, r, b, l) := by
  cases d with
  | zero => rfl
  | succ d => rw [rz_IP, if_neg (by omega)]
theorem rz_cq_lg {i : Nat} (h : i < 1920) (h4 : i / 192 < 6 → i % 16 < 4) : rz_lg (rz_cq i) := by
  refine ⟨?_, ?_, ?_, ?_, fun h5 => ?_⟩
  · show i / 192 ≤ 15; omega
  · show 1 + i / 64 % 3 ≤ 3; omega
  · show i / 16 % 4 ≤ 3; omega
  · show i % 16 ≤ 24; omega
  · have h5' : i / 192 ≤ 5 := h5
    have := h4 (by omega)
    show i % 16 ≤ 3
    omega
theorem rz_ch_lg {R : Nat → rz_Q} {p m i : Nat} (h : i < 1920) (hc : rz_ch R p m i) : rz_lg (rz_cq i) := rz_cq_lg h fun h6 => by
  unfold rz_ch at hc
  rw [if_pos h6] at hc
  exact hc
theorem rz_sh_ok {R : Nat → rz_Q} {n p m b k : Nat} {q : rz_Q} (hl : rz_lgs R n) (hir : rz_ir R n p m) (hbm : b ≤ m) (hq : b ≠ 0 → rz_lg q ∧ q.1 ≤ 9) (hk : k < n - (m - b)) : rz_lg (rz_sh R p m b q k) ∧ (12 ≤ (rz_sh R p m b q k).1 → (rz_sh R p m b q k).1 ≤ 14 → p < (rz_sh R p m b q k).2.2.2 → p + m ≤ (rz_sh R p m b q k).2.2.2) := by
  have hk' : k + (m - b) < n := by have := hir.1; omega
  have old : ∀ j, j < n → rz_lg (R j) ∧ (12 ≤ (R j).1 → (R j).1 ≤ 14 → p < (R j).2.2.2 → p + m ≤ (R j).2.2.2) := fun j hj => ⟨hl j hj, fun h1 h2 h3 => by
    rcases Nat.lt_or_ge (R j).2.2.2 (p + m) with h | h
    · exact absurd (Or.inr (Or.inr ⟨j, hj, h1, h2, rfl⟩)) (hir.2.2 _ h3 h)
    · exact h⟩
  unfold rz_sh
  by_cases h1 : k < p
  · rw [if_pos h1]; exact old k (by omega)
  · rw [if_neg h1]
    by_cases h2 : k < p + b
    · rw [if_pos h2]
      obtain ⟨q1, q2⟩ := hq (by omega)
      exact ⟨q1, fun h => absurd h (by omega)⟩
    · rw [if_neg h2]; exact old _ hk'
/-- the program after a cut is legal, if no jump went into the row -/
theorem rz_cu_lg {R : Nat → rz_Q} {n p m b : Nat} {q : rz_Q} (hl : rz_lgs R n) (hir : rz_ir R n p m) (hbm : b ≤ m) (hq : b ≠ 0 → rz_lg q ∧ q.1 ≤ 9) : rz_lgs (rz_cu R p m b q) (n - (m - b)) := by
  intro k hk
  have hs := rz_sh_ok hl hir hbm hq hk
  unfold rz_cu rz_mv
  by_cases h : 12 ≤ (rz_sh R p m b q k).1 ∧ (rz_sh R p m b q k).1 ≤ 14 ∧ p < (rz_sh R p m b q k).2.2.2
  · rw [if_pos h]
    have h2 := hs.2 h.1 h.2.1 h.2.2
    obtain ⟨g1, g2, g3, g4, g5⟩ := hs.1
    exact ⟨g1, g2, g3, by show (rz_sh R p m b q k).2.2.2 - (m - b) ≤ 24; omega, fun h9 => absurd (show (rz_sh R p m b q k).1 ≤ 5 from h9) (by omega)⟩
  · rw [if_neg h]; exact hs.1
/-! the reference, exactly: blocks, rows, liveness, candidates -/
section RZX2
variable {xs : Nat → Int32} {xl : Nat} {v : Nat → Int32} {a : Nat → Nat → Int32} {g : Nat → Int64} {R : Nat → rz_Q}
theorem rz_pr_rw {n k : Nat} (hp : rz_pr a R n) (hl : rz_lgs R n) (hk : k < n) : rz_rw a k (R k) := ⟨hl k hk, hp k hk⟩
theorem m_isPlainX {p n : Nat} (hp : p + n ≤ 25) (hr : ∀ k, p ≤ k → k < p + n → rz_rw a k (R k)) : rz_C xs xl 94 [.ref 25, .int (Int32.ofNat p), .int (Int32.ofNat n)] (rz_w v a g) (rz_bx (rz_w v a g) (rz_pl R p n)) := by
  refine ev_ps 4 rfl ?_
  refine ev_loop (α := Nat × Int32) (fun r => p + n - r.1) (fun r => p ≤ r.1 ∧ r.1 ≤ p + n ∧ (r.2 = 0 ∨ r.2 = 1) ∧ (r.2 = 1 ↔ ∀ k, p ≤ k → k < r.1 → (R k).1 ≤ 9)) (fun r => [some (.ref 25), some (.int (Int32.ofNat p)), some (.int (Int32.ofNat n)), some (.int r.2), some (.int (Int32.ofNat r.1))]) (fun _ => []) (fun _ => rz_w v a g) ?_ (p, 1) ⟨Nat.le_refl _, by show p ≤ p + n; omega, Or.inr rfl, fun _ k h1 h2 => absurd h2 (by show ¬ k < p; omega), fun _ => rfl⟩
  rintro ⟨k, b⟩ ⟨hpk, hk, hb, hiff⟩ ih
  dsimp only at hpk hk hb hiff ih ⊢
  have next : k < p + n → ∀ c : Int32, (c = 0 ∨ c = 1) → (c = 1 ↔ (b = 1 ∧ (R k).1 ≤ 9)) → rz_E xs xl 94 34 [some (.ref 25), some (.int (Int32.ofNat p)), some (.int (Int32.ofNat n)), some (.int b), some (.int (Int32.ofNat k))] [.int c] (rz_w v a g) 0 0 (rz_bx (rz_w v a g) (rz_pl R p n)) := fun hk' c hc hci => by
    have h9 := ih (k + 1, c) ⟨by show p ≤ k + 1; omega, by show k + 1 ≤ p + n; omega, hc, fun q j h1 h2 => by
      obtain ⟨q1, q2⟩ := hci.mp q
      by_cases hjk : j = k
      · rw [hjk]; exact q2
      · exact hiff.mp q1 j h1 (by have : j < k + 1 := h2; omega), fun q => hci.mpr ⟨hiff.mpr (fun j h1 h2 => q j h1 (by show j < k + 1; omega)), q k hpk (by show k < k + 1; omega)⟩⟩ (by show p + n - (k + 1) < p + n - k; omega)
    dsimp only at h9
    rw [← rz_succ k] at h9
    exact ev_ps 3 rfl h9
  refine ev_ps 4 rfl (ev_ic (cd := .ge) rfl (fun h => ?_) (fun h => ?_))
  · rw [rz_add] at h
    have hkn : p + n ≤ k := rn_ge_t (by omega) (by omega) h
    have e : k = p + n := by omega
    subst e
    exact ev_ps 1 rfl (ev_ret rfl (show (if b = 0 ∨ b = 1 then some (some (Value.int b)) else none) = _ from if_pos hb) ⟨⟨b, hb, hiff, rfl⟩, rfl⟩)
  · rw [rz_add] at h
    have hk' : k < p + n := rn_ge_f (by omega) (by omega) h
    have hrow := hr k hpk hk'
    refine ev_ps 1 rfl (ev_if (cd := .eq) rfl (fun h => ?_) (fun h => ?_))
    · have hb0 : b = 0 := rc_eq_t h
      exact ev_ps 1 rfl (next hk' 0 (Or.inl rfl) ⟨fun q => absurd q (by decide), fun q => absurd (hb0.symm.trans q.1) (by decide)⟩)
    · have hb1 : b = 1 := hb.resolve_left (rc_eq_f h)
      refine ev_ps 3 rfl (ev_ald rfl rfl (rz_in (by omega) (by decide)) ?_)
      rw [rz_clamp (k := k) (by omega), hrow.2.1]
      refine ev_ps 1 rfl (ev_ic (cd := .gt) rfl (fun h => ?_) (fun h => ?_))
      · have h9 : 9 < (R k).1 := rn_gt_t (k := 9) (by have := hrow.1.1; omega) (by omega) h
        exact ev_ps 1 rfl (next hk' 0 (Or.inl rfl) ⟨fun q => absurd q (by decide), fun q => absurd q.2 (by omega)⟩)
      · have h9 : (R k).1 ≤ 9 := rn_gt_f (k := 9) (by have := hrow.1.1; omega) (by omega) h
        exact ev_ps 2 rfl (next hk' 1 (Or.inr rfl) ⟨fun _ => ⟨hb1, h9⟩, fun _ => rfl⟩)
theorem m_isBeginX {p n : Nat} (hv : v 21 = Int32.ofNat n) (hn : n ≤ 24) (hp : p ≤ n) (hpr : rz_pr a R n) (hl : rz_lgs R n) : rz_C xs xl 91 [.ref 25, .int (Int32.ofNat p)] (rz_w v a g) (rz_bx (rz_w v a g) (rz_bn R n p)) := by
  have main : ∀ b : Int32, (b = 0 ∨ b = 1) → (b = 1 ↔ (p = 0 ∨ 12 ≤ (R (p - 1)).1)) → rz_E xs xl 91 22 [some (.ref 25), some (.int (Int32.ofNat p)), none, none] [.int b] (rz_w v a g) 0 0 (rz_bx (rz_w v a g) (rz_bn R n p)) := by
    intro b hb hbp
    refine ev_ps 3 rfl ?_
    refine ev_loop (α := Nat × Int32) (fun r => n - r.1) (fun r => r.1 ≤ n ∧ (r.2 = 0 ∨ r.2 = 1) ∧ (r.2 = 1 ↔ rz_bn R r.1 p)) (fun r => [some (.ref 25), some (.int (Int32.ofNat p)), some (.int r.2), some (.int (Int32.ofNat r.1))]) (fun _ => []) (fun _ => rz_w v a g) ?_ (0, b) ⟨Nat.zero_le _, hb, fun q => (hbp.mp q).elim Or.inl (fun z => Or.inr (Or.inl z)), fun q => hbp.mpr (q.elim Or.inl (fun z => z.elim Or.inr (fun ⟨k, hk, _⟩ => absurd hk (Nat.not_lt_zero _))))⟩
    rintro ⟨k, b⟩ ⟨hk, hb, hbp⟩ ih
    dsimp only at hk hb hbp ih ⊢
    have next : k < n → ∀ c : Int32, (c = 0 ∨ c = 1) → (c = 1 ↔ (b = 1 ∨ (12 ≤ (R k).1 ∧ (R k).1 ≤ 14 ∧ (R k).2.2.2 = p))) → rz_E xs xl 91 74 [some (.ref 25), some (.int (Int32.ofNat p)), some (.int b), some (.int (Int32.ofNat k))] [.int c] (rz_w v a g) 0 0 (rz_bx (rz_w v a g) (rz_bn R n p)) := fun hk' c hc hcp => by
      have h9 := ih (k + 1, c) ⟨by show k + 1 ≤ n; omega, hc, fun q => by
        rcases hcp.mp q with q1 | q1
        · rcases hbp.mp q1 with z | z | ⟨j, hj, z⟩
          · exact Or.inl z
          · exact Or.inr (Or.inl z)
          · exact Or.inr (Or.inr ⟨j, by show j < k + 1; omega, z⟩)
        · exact Or.inr (Or.inr ⟨k, by show k < k + 1; omega, q1⟩), fun q => hcp.mpr (by
        rcases q with z | z | ⟨j, hj, z⟩
        · exact Or.inl (hbp.mpr (Or.inl z))
        · exact Or.inl (hbp.mpr (Or.inr (Or.inl z)))
        · by_cases hjk : j = k
          · rw [hjk] at z; exact Or.inr z
          · exact Or.inl (hbp.mpr (Or.inr (Or.inr ⟨j, by have : j < k + 1 := hj; omega, z⟩))))⟩ (by show n - (k + 1) < n - k; omega)
      dsimp only at h9
      rw [← rz_succ k] at h9
      exact ev_ps 3 rfl h9
    refine ev_ps 3 rfl (ev_ic (cd := .ge) rfl (fun h => ?_) (fun h => ?_))
    · rw [hv] at h
      have hkn : n ≤ k := rn_ge_t (by omega) (by omega) h
      have : k = n := by omega
      subst this
      exact ev_ps 1 rfl (ev_ret rfl (show (if b = 0 ∨ b = 1 then some (some (Value.int b)) else none) = _ from if_pos hb) ⟨⟨b, hb, hbp, rfl⟩, rfl⟩)
    · rw [hv] at h
      have hk' : k < n := rn_ge_f (by omega) (by omega) h
      have e := rz_clamp (k := k) (by omega)
      have hin : ¬ (Int32.ofNat k < 0 ∨ 25 ≤ (Int32.ofNat k).toNatClampNeg) := rz_in (by omega) (by decide)
      obtain ⟨⟨b1, b2, b3, b4, b5⟩, e1, e2, e3, e4⟩ := rz_pr_rw hpr hl hk'
      refine ev_ps 1 rfl (ev_if (cd := .ne) rfl (fun h => ?_) (fun h => ?_))
      · exact ev_ps 2 rfl (next hk' 1 (Or.inr rfl) ⟨fun _ => Or.inl (hb.resolve_left (rc_ne_t h)), fun _ => rfl⟩)
      · have hb0 : b = 0 := rc_ne_f h
        have no : ¬ (12 ≤ (R k).1 ∧ (R k).1 ≤ 14 ∧ (R k).2.2.2 = p) → ((0 : Int32) = 1 ↔ (b = 1 ∨ (12 ≤ (R k).1 ∧ (R k).1 ≤ 14 ∧ (R k).2.2.2 = p))) := fun hno => ⟨fun q => absurd q (by decide), fun q => q.elim (fun z => absurd (hb0.symm.trans z) (by decide)) (fun z => absurd z hno)⟩
        refine ev_ps 3 rfl (ev_ald rfl rfl hin ?_)
        rw [e, e1]
        refine ev_ps 1 rfl (ev_ic (cd := .lt) rfl (fun h => ?_) (fun h => ?_))
        · have h1 : (R k).1 < 12 := rn_lt_t (k := 12) (by omega) (by omega) h
          exact ev_ps 1 rfl (next hk' 0 (Or.inl rfl) (no (fun q => by omega)))
        · have h1 : 12 ≤ (R k).1 := rn_lt_f (k := 12) (by omega) (by omega) h
          refine ev_ps 3 rfl (ev_ald rfl rfl hin ?_)
          rw [e, e1]
          refine ev_ps 1 rfl (ev_ic (cd := .gt) rfl (fun h2 => ?_) (fun h2 => ?_))
          · have h3 : 14 < (R k).1 := rn_gt_t (k := 14) (by omega) (by omega) h2
            exact ev_ps 1 rfl (next hk' 0 (Or.inl rfl) (no (fun q => by omega)))
          · have h3 : (R k).1 ≤ 14 := rn_gt_f (k := 14) (by omega) (by omega) h2
            refine ev_ps 3 rfl (ev_ald rfl rfl hin ?_)
            rw [e, e4]
            refine ev_ps 1 rfl (ev_ic (cd := .ne) rfl (fun h4 => ?_) (fun h4 => ?_))
            · exact ev_ps 1 rfl (next hk' 0 (Or.inl rfl) (no (fun q => rc_ne_t h4 (by rw [q.2.2]))))
            · have h5 : (R k).2.2.2 = p := (rz_eq_iff (by omega) (by omega)).mp (rc_ne_f h4)
              exact ev_ps 2 rfl (next hk' 1 (Or.inr rfl) ⟨fun _ => Or.inr ⟨h1, h3, h5⟩, fun _ => rfl⟩)
  refine ev_ps 1 rfl (ev_if (cd := .eq) rfl (fun h1 => ?_) (fun h1 => ?_))
  · have hp0 : p = 0 := (rz_eq_iff (k := 0) (by omega) (by omega)).mp (rc_eq_t h1)
    exact ev_ps 2 rfl (main 1 (Or.inr rfl) ⟨fun _ => Or.inl hp0, fun _ => rfl⟩)
  · have hp0 : 0 < p := by
      rcases Nat.eq_zero_or_pos p with rfl | h
      · exact absurd rfl (rc_eq_f h1)
      · exact h
    obtain ⟨⟨b1, b2, b3, b4, b5⟩, e1, e2, e3, e4⟩ := rz_pr_rw hpr hl (show p - 1 < n by omega)
    have ep : Int32.ofNat p - Int32.ofInt 1 = Int32.ofNat (p - 1) := rz_sub (n := 1) hp0
    refine ev_ps 5 rfl (ev_ald rfl rfl (by rw [ep]; exact rz_in (by omega) (by decide)) ?_)
    rw [ep, rz_clamp (k := p - 1) (by omega), e1]
    refine ev_ps 1 rfl (ev_ic (cd := .lt) rfl (fun h2 => ?_) (fun h2 => ?_))
    · have h3 : (R (p - 1)).1 < 12 := rn_lt_t (k := 12) (by omega) (by omega) h2
      exact ev_ps 1 rfl (main 0 (Or.inl rfl) ⟨fun q => absurd q (by decide), fun q => absurd q (by omega)⟩)
    · have h3 : 12 ≤ (R (p - 1)).1 := rn_lt_f (k := 12) (by omega) (by omega) h2
      exact ev_ps 2 rfl (main 1 (Or.inr rfl) ⟨fun _ => Or.inr h3, fun _ => rfl⟩)
theorem m_isRowX {p m n : Nat} (hv : v 21 = Int32.ofNat n) (hn : n ≤ 24) (hp : p ≤ 24) (hm : m ≤ 3) (hm1 : 1 ≤ m) (hpr : rz_pr a R n) (hl : rz_lgs R n) : rz_C xs xl 99 [.ref 25, .int (Int32.ofNat p), .int (Int32.ofNat m)] (rz_w v a g) (rz_bx (rz_w v a g) (rz_ir R n p m)) := by
  refine ev_ps 5 rfl (ev_ic (cd := .gt) rfl (fun h => ?_) (fun h => ?_))
  · rw [rz_add, hv] at h
    have hlt : n < p + m := rn_gt_t (by omega) (by omega) h
    exact ev_ps 1 rfl (ev_ret rfl rfl (rz_bx0 (fun q => absurd q.1 (by omega))))
  · rw [rz_add, hv] at h
    have hle : p + m ≤ n := rn_gt_f (by omega) (by omega) h
    refine ev_ps 3 rfl (ev_call (av := [_, _, _]) rfl rfl rfl rfl ⟨Nat.le_of_ble_eq_true rfl, rfl⟩ ⟨Nat.le_of_ble_eq_true rfl, Nat.le_of_ble_eq_true rfl⟩ (m_isPlainX (by omega) (fun k h1 h2 => rz_pr_rw hpr hl (by omega))) ?_)
    rintro _ _ ⟨⟨u, hu, hui, rfl⟩, rfl⟩
    refine ev_if (cd := .ne) rfl (fun h1 => ?_) (fun h1 => ?_)
    · have hpl : rz_pl R p m := hui.mp (hu.resolve_left (rc_ne_t h1))
      refine ev_ps 6 rfl (ev_l (L2 := [some (.ref 25), some (.int (Int32.ofNat p)), some (.int (Int32.ofNat m)), some (.int 1), some (.int (Int32.ofNat (p + 1)))]) (by rw [← rz_succ]; rfl) ?_)
      refine ev_loop (α := Nat × Int32) (fun r => p + m - r.1) (fun r => p < r.1 ∧ r.1 ≤ p + m ∧ (r.2 = 0 ∨ r.2 = 1) ∧ (r.2 = 1 ↔ ∀ k, p < k → k < r.1 → ¬ rz_bn R n k)) (fun r => [some (.ref 25), some (.int (Int32.ofNat p)), some (.int (Int32.ofNat m)), some (.int r.2), some (.int (Int32.ofNat r.1))]) (fun _ => []) (fun _ => rz_w v a g) ?_ (p + 1, 1) ⟨by show p < p + 1; omega, by show p + 1 ≤ p + m; omega, Or.inr rfl, fun _ j h1 h2 => absurd h2 (by show ¬ j < p + 1; omega), fun _ => rfl⟩
      rintro ⟨k, b⟩ ⟨hpk, hk, hb, hbp⟩ ih
      dsimp only at hpk hk hb hbp ih ⊢
      have next : k < p + m → ∀ c : Int32, (c = 0 ∨ c = 1) → (c = 1 ↔ (b = 1 ∧ ¬ rz_bn R n k)) → rz_E xs xl 99 54 [some (.ref 25), some (.int (Int32.ofNat p)), some (.int (Int32.ofNat m)), some (.int b), some (.int (Int32.ofNat k))] [.int c] (rz_w v a g) 0 0 (rz_bx (rz_w v a g) (rz_ir R n p m)) := fun hk' c hc hcp => by
        have h9 := ih (k + 1, c) ⟨by show p < k + 1; omega, by show k + 1 ≤ p + m; omega, hc, fun q j h1 h2 => by
          obtain ⟨q1, q2⟩ := hcp.mp q
          by_cases hjk : j = k
          · rw [hjk]; exact q2
          · exact hbp.mp q1 j h1 (by have : j < k + 1 := h2; omega), fun q => hcp.mpr ⟨hbp.mpr (fun j h1 h2 => q j h1 (by show j < k + 1; omega)), q k hpk (by show k < k + 1; omega)⟩⟩ (by show p + m - (k + 1) < p + m - k; omega)
        dsimp only at h9
        rw [← rz_succ k] at h9
        exact ev_ps 3 rfl h9
      refine ev_ps 4 rfl (ev_ic (cd := .ge) rfl (fun h => ?_) (fun h => ?_))
      · rw [rz_add] at h
        have hkn : p + m ≤ k := rn_ge_t (by omega) (by omega) h
        have e : k = p + m := by omega
        subst e
        exact ev_ps 1 rfl (ev_ret rfl (show (if b = 0 ∨ b = 1 then some (some (Value.int b)) else none) = _ from if_pos hb) ⟨⟨b, hb, ⟨fun q => ⟨hle, hpl, hbp.mp q⟩, fun q => hbp.mpr q.2.2⟩, rfl⟩, rfl⟩)
      · rw [rz_add] at h
        have hk' : k < p + m := rn_ge_f (by omega) (by omega) h
        refine ev_ps 1 rfl (ev_if (cd := .eq) rfl (fun h => ?_) (fun h => ?_))
        · have hb0 : b = 0 := rc_eq_t h
          exact ev_ps 1 rfl (next hk' 0 (Or.inl rfl) ⟨fun q => absurd q (by decide), fun q => absurd (hb0.symm.trans q.1) (by decide)⟩)
        · have hb1 : b = 1 := hb.resolve_left (rc_eq_f h)
          refine ev_ps 2 rfl (ev_call (av := [_, _]) rfl rfl rfl rfl ⟨Nat.le_of_ble_eq_true rfl, rfl⟩ ⟨Nat.le_of_ble_eq_true rfl, Nat.le_of_ble_eq_true rfl⟩ (m_isBeginX hv hn (by omega) hpr hl) ?_)
          rintro _ _ ⟨⟨u3, hu3, hP3, rfl⟩, rfl⟩
          refine ev_if (cd := .ne) rfl (fun h => ?_) (fun h => ?_)
          · have hbn := hP3.mp (hu3.resolve_left (rc_ne_t h))
            exact ev_ps 1 rfl (next hk' 0 (Or.inl rfl) ⟨fun q => absurd q (by decide), fun q => absurd hbn q.2⟩)
          · have hbn : ¬ rz_bn R n k := fun q => absurd ((rc_ne_f h).symm.trans (hP3.mpr q)) (by decide)
            exact ev_ps 2 rfl (next hk' 1 (Or.inr rfl) ⟨fun _ => ⟨hb1, hbn⟩, fun _ => rfl⟩)
    · have hpl : ¬ rz_pl R p m := fun q => absurd ((rc_ne_f h1).symm.trans (hui.mpr q)) (by decide)
      exact ev_ps 1 rfl (ev_ret rfl rfl (rz_bx0 (fun q => hpl q.2.1)))
theorem m_isCandidateX {p n t : Nat} (ht : t < 16) (hp : p + n ≤ 25) (hr : ∀ k, p ≤ k → k < p + n → rz_rw a k (R k)) : rz_C xs xl 101 [.ref 25, .int (Int32.ofNat t), .int (Int32.ofNat p), .int (Int32.ofNat n)] (rz_w v a g) (rz_bx (rz_w v a g) (rz_cd R p n t)) := by
  have main : ∀ b : Int32, (b = 0 ∨ b = 1) → (b = 1 ↔ (t = 0 ∨ t = 1 ∨ t = 15)) → rz_E xs xl 101 20 [some (.ref 25), some (.int (Int32.ofNat t)), some (.int (Int32.ofNat p)), some (.int (Int32.ofNat n)), none, none] [.int b] (rz_w v a g) 0 0 (rz_bx (rz_w v a g) (rz_cd R p n t)) := by
    intro b hb hbi
    refine ev_ps 3 rfl ?_
    refine ev_loop (α := Nat × Int32) (fun r => p + n - r.1) (fun r => p ≤ r.1 ∧ r.1 ≤ p + n ∧ (r.2 = 0 ∨ r.2 = 1) ∧ (r.2 = 1 ↔ rz_cd R p (r.1 - p) t)) (fun r => [some (.ref 25), some (.int (Int32.ofNat t)), some (.int (Int32.ofNat p)), some (.int (Int32.ofNat n)), some (.int r.2), some (.int (Int32.ofNat r.1))]) (fun _ => []) (fun _ => rz_w v a g) ?_ (p, b) ⟨Nat.le_refl _, by show p ≤ p + n; omega, hb, fun q => by
      rcases hbi.mp q with z | z | z
      · exact Or.inl z
      · exact Or.inr (Or.inl z)
      · exact Or.inr (Or.inr (Or.inl z)), fun q => hbi.mpr (by
      rcases q with z | z | z | ⟨k, h1, h2, z⟩
      · exact Or.inl z
      · exact Or.inr (Or.inl z)
      · exact Or.inr (Or.inr z)
      · exact absurd h2 (by show ¬ k < p + (p - p); omega))⟩
    rintro ⟨k, b⟩ ⟨hpk, hk, hb, hbi⟩ ih
    dsimp only at hpk hk hb hbi ih ⊢
    have next : k < p + n → ∀ c : Int32, (c = 0 ∨ c = 1) → (c = 1 ↔ (b = 1 ∨ (6 ≤ (R k).1 ∧ (R k).2.2.2 = t))) → rz_E xs xl 101 66 [some (.ref 25), some (.int (Int32.ofNat t)), some (.int (Int32.ofNat p)), some (.int (Int32.ofNat n)), some (.int b), some (.int (Int32.ofNat k))] [.int c] (rz_w v a g) 0 0 (rz_bx (rz_w v a g) (rz_cd R p n t)) := fun hk' c hc hci => by
      have h9 := ih (k + 1, c) ⟨by show p ≤ k + 1; omega, by show k + 1 ≤ p + n; omega, hc, fun q => by
        rcases hci.mp q with q1 | q1
        · rcases hbi.mp q1 with z | z | z | ⟨j, h1, h2, z⟩
          · exact Or.inl z
          · exact Or.inr (Or.inl z)
          · exact Or.inr (Or.inr (Or.inl z))
          · exact Or.inr (Or.inr (Or.inr ⟨j, h1, by show j < p + (k + 1 - p); omega, z⟩))
        · exact Or.inr (Or.inr (Or.inr ⟨k, hpk, by show k < p + (k + 1 - p); omega, q1⟩)), fun q => hci.mpr (by
        rcases q with z | z | z | ⟨j, h1, h2, z⟩
        · exact Or.inl (hbi.mpr (Or.inl z))
        · exact Or.inl (hbi.mpr (Or.inr (Or.inl z)))
        · exact Or.inl (hbi.mpr (Or.inr (Or.inr (Or.inl z))))
        · by_cases hjk : j = k
          · rw [hjk] at z; exact Or.inr z
          · exact Or.inl (hbi.mpr (Or.inr (Or.inr (Or.inr ⟨j, h1, by have : j < p + (k + 1 - p) := h2; omega, z⟩)))))⟩ (by show p + n - (k + 1) < p + n - k; omega)
      dsimp only at h9
      rw [← rz_succ k] at h9
      exact ev_ps 3 rfl h9
    refine ev_ps 4 rfl (ev_ic (cd := .ge) rfl (fun h => ?_) (fun h => ?_))
    · rw [rz_add] at h
      have hkn : p + n ≤ k := rn_ge_t (by omega) (by omega) h
      have e : k = p + n := by omega
      subst e
      rw [show p + n - p = n by omega] at hbi
      exact ev_ps 1 rfl (ev_ret rfl (show (if b = 0 ∨ b = 1 then some (some (Value.int b)) else none) = _ from if_pos hb) ⟨⟨b, hb, hbi, rfl⟩, rfl⟩)
    · rw [rz_add] at h
      have hk' : k < p + n := rn_ge_f (by omega) (by omega) h
      obtain ⟨⟨b1, b2, b3, b4, b5⟩, e1, e2, e3, e4⟩ := hr k hpk hk'
      have e := rz_clamp (k := k) (by omega)
      refine ev_ps 1 rfl (ev_if (cd := .ne) rfl (fun h => ?_) (fun h => ?_))
      · exact ev_ps 2 rfl (next hk' 1 (Or.inr rfl) ⟨fun _ => Or.inl (hb.resolve_left (rc_ne_t h)), fun _ => rfl⟩)
      · have hb0 : b = 0 := rc_ne_f h
        have no : ¬ (6 ≤ (R k).1 ∧ (R k).2.2.2 = t) → ((0 : Int32) = 1 ↔ (b = 1 ∨ (6 ≤ (R k).1 ∧ (R k).2.2.2 = t))) := fun hno => ⟨fun q => absurd q (by decide), fun q => q.elim (fun z => absurd (hb0.symm.trans z) (by decide)) (fun z => absurd z hno)⟩
        refine ev_ps 3 rfl (ev_ald rfl rfl (rz_in (by omega) (by decide)) ?_)
        rw [e, e1]
        refine ev_ps 1 rfl (ev_ic (cd := .lt) rfl (fun h => ?_) (fun h => ?_))
        · have h1 : (R k).1 < 6 := rn_lt_t (k := 6) (by omega) (by omega) h
          exact ev_ps 1 rfl (next hk' 0 (Or.inl rfl) (no (fun q => by omega)))
        · have h1 : 6 ≤ (R k).1 := rn_lt_f (k := 6) (by omega) (by omega) h
          refine ev_ps 3 rfl (ev_ald rfl rfl (rz_in (by omega) (by decide)) ?_)
          rw [e, e4]
          refine ev_ps 1 rfl (ev_ic (cd := .ne) rfl (fun h => ?_) (fun h => ?_))
          · exact ev_ps 1 rfl (next hk' 0 (Or.inl rfl) (no (fun q => rc_ne_t h (by rw [q.2]))))
          · have h2 : (R k).2.2.2 = t := (rz_eq_iff (by omega) (by omega)).mp (rc_ne_f h)
            exact ev_ps 2 rfl (next hk' 1 (Or.inr rfl) ⟨fun _ => Or.inr ⟨h1, h2⟩, fun _ => rfl⟩)
  refine ev_ps 1 rfl (ev_if (cd := .eq) rfl (fun h => ?_) (fun h => ?_))
  · have h0 : t = 0 := (rz_eq_iff (k := 0) (by omega) (by omega)).mp (rc_eq_t h)
    exact ev_ps 2 rfl (main 1 (Or.inr rfl) ⟨fun _ => Or.inl h0, fun _ => rfl⟩)
  · have h0 : ¬ t = 0 := fun q => rc_eq_f h (by rw [q]; rfl)
    refine ev_ps 2 rfl (ev_ic (cd := .eq) rfl (fun h => ?_) (fun h => ?_))
    · have h1 : t = 1 := (rz_eq_iff (k := 1) (by omega) (by omega)).mp (rc_eq_t h)
      exact ev_ps 2 rfl (main 1 (Or.inr rfl) ⟨fun _ => Or.inr (Or.inl h1), fun _ => rfl⟩)
    · have h1 : ¬ t = 1 := fun q => rc_eq_f h (by rw [q]; rfl)
      refine ev_ps 2 rfl (ev_ic (cd := .ne) rfl (fun h => ?_) (fun h => ?_))
      · have h2 : ¬ t = 15 := fun q => rc_ne_t h (by rw [q]; rfl)
        exact ev_ps 1 rfl (main 0 (Or.inl rfl) ⟨fun q => absurd q (by decide), fun q => absurd q (by omega)⟩)
      · have h2 : t = 15 := (rz_eq_iff (k := 15) (by omega) (by omega)).mp (rc_ne_f h)
        exact ev_ps 2 rfl (main 1 (Or.inr rfl) ⟨fun _ => Or.inr (Or.inr h2), fun _ => rfl⟩)
theorem m_findLivesX {n : Nat} (hn : n ≤ 24) (hv : v 21 = Int32.ofNat n) (hpr : rz_pr a R n) (hl : rz_lgs R n) : rz_C xs xl 86 [.ref 25] (rz_w v a g) (fun q w' => q = .inl none ∧ ∃ f, w' = rz_w v (rz_ua a 26 f) g ∧ ∀ k, k < n → f k = rz_lv R n k) := by
  have hrows : ∀ k, k < n → rz_li a k := fun k hk => rz_pr_li hpr hl hk
  have hfl : ∀ p, p < n → rz_li (rz_fam R) p := fun p hp => rz_fam_li (hl p hp)
  -- one place of a sweep
  have place : ∀ (c : Int32) (p : Nat) (f : Nat → Int32) (l3 l4 l5 l6 : Option Value), p < n → (∀ (d : Int32) (l3 l4 l5 l6 : Option Value), (d = 0 ∨ d = 1) → (d = 0 → c = 0 ∧ rz_Fp a n f p = f p) → (d = 1 → ¬ c = 0 ∨ ¬ rz_Fp a n f p = f p) → rz_E xs xl 86 170 [some (.ref 25), some (.int d), some (.int (Int32.ofNat p)), l3, l4, l5, l6] [] (rz_w v (rz_ua a 26 (upd f p (rz_Fp a n f p))) g) 0 0 (fun q w' => q = .inl none ∧ ∃ f, w' = rz_w v (rz_ua a 26 f) g ∧ ∀ k, k < n → f k = rz_lv R n k)) → rz_E xs xl 86 42 [some (.ref 25), some (.int c), some (.int (Int32.ofNat p)), l3, l4, l5, l6] [] (rz_w v (rz_ua a 26 f) g) 0 0 (fun q w' => q = .inl none ∧ ∃ f, w' = rz_w v (rz_ua a 26 f) g ∧ ∀ k, k < n → f k = rz_lv R n k) := by
    intro c p f l3 l4 l5 l6 hp hK
    have e := rz_clamp (k := p) (by omega)
    have hin : ¬ (Int32.ofNat p < 0 ∨ 25 ≤ (Int32.ofNat p).toNatClampNeg) := rz_in (by omega) (by decide)
    obtain ⟨o', d', s', t', ho, hd, hs, ht, b1, b2, b3, b4, b5⟩ := hrows p hp
    have fin : rz_E xs xl 86 141 [some (.ref 25), some (.int c), some (.int (Int32.ofNat p)), some (.int (a 20 p)), some (.int (rz_b1 n f (a 20 p) p ||| rz_b2 n f (a 20 p) (a 23 p).toNatClampNeg)), some (.int (rz_wr (a 20 p) (a 21 p))), some (.int (rz_Fp a n f p))] [] (rz_w v (rz_ua a 26 f) g) 0 0 (fun q w' => q = .inl none ∧ ∃ f, w' = rz_w v (rz_ua a 26 f) g ∧ ∀ k, k < n → f k = rz_lv R n k) := by
      have store : ∀ d : Int32, (d = 0 ∨ d = 1) → (d = 0 → c = 0 ∧ rz_Fp a n f p = f p) → (d = 1 → ¬ c = 0 ∨ ¬ rz_Fp a n f p = f p) → rz_E xs xl 86 161 [some (.ref 25), some (.int c), some (.int (Int32.ofNat p)), some (.int (a 20 p)), some (.int (rz_b1 n f (a 20 p) p ||| rz_b2 n f (a 20 p) (a 23 p).toNatClampNeg)), some (.int (rz_wr (a 20 p) (a 21 p))), some (.int (rz_Fp a n f p))] [.int d] (rz_w v (rz_ua a 26 f) g) 0 0 (fun q w' => q = .inl none ∧ ∃ f, w' = rz_w v (rz_ua a 26 f) g ∧ ∀ k, k < n → f k = rz_lv R n k) := by
        intro d hd0 hd1 hd2
        refine ev_ps 5 rfl (ev_ast rfl rfl hin ?_)
        refine ev_w (w2 := rz_w v (rz_ua a 26 (upd f p (rz_Fp a n f p))) g) (by rw [e]; rfl) ?_
        exact hK d _ _ _ _ hd0 hd1 hd2
      refine ev_ps 1 rfl (ev_if (cd := .ne) rfl (fun h => ?_) (fun h => ?_))
      · exact ev_ps 2 rfl (store 1 (Or.inr rfl) (fun q => absurd q (by decide)) (fun _ => Or.inl (rc_ne_t h)))
      · refine ev_ps 4 rfl (ev_ald rfl rfl hin ?_)
        refine ev_ic (cd := .eq) rfl (fun h2 => ?_) (fun h2 => ?_)
        · refine ev_ps 1 rfl (store 0 (Or.inl rfl) (fun _ => ⟨rc_ne_f h, ?_⟩) (fun q => absurd q (by decide)))
          have := rc_eq_t h2
          rw [e] at this
          exact this
        · refine ev_ps 2 rfl (store 1 (Or.inr rfl) (fun q => absurd q (by decide)) (fun _ => Or.inr (fun q => rc_eq_f h2 ?_)))
          rw [e]
          exact q
    have s124 : ∀ x : Int32, x = rz_wr (a 20 p) (a 21 p) → rz_E xs xl 86 124 [some (.ref 25), some (.int c), some (.int (Int32.ofNat p)), some (.int (a 20 p)), some (.int (rz_b1 n f (a 20 p) p ||| rz_b2 n f (a 20 p) (a 23 p).toNatClampNeg)), l5, l6] [.int x] (rz_w v (rz_ua a 26 f) g) 0 0 (fun q w' => q = .inl none ∧ ∃ f, w' = rz_w v (rz_ua a 26 f) g ∧ ∀ k, k < n → f k = rz_lv R n k) := by
      intro x hx
      subst hx
      refine ev_ps 3 rfl (ev_call (av := [_, _]) rfl rfl rfl rfl ⟨Nat.le_of_ble_eq_true rfl, rfl⟩ ⟨Nat.le_of_ble_eq_true rfl, Nat.le_of_ble_eq_true rfl⟩ (m_reads (by omega)) ?_)
      rintro _ _ ⟨rfl, rfl⟩
      exact ev_ps 7 rfl fin
    have s102 : ∀ x : Int32, x = rz_b2 n f (a 20 p) (a 23 p).toNatClampNeg → rz_E xs xl 86 102 [some (.ref 25), some (.int c), some (.int (Int32.ofNat p)), some (.int (a 20 p)), some (.int (rz_b1 n f (a 20 p) p)), l5, l6] [.int x, .int (rz_b1 n f (a 20 p) p)] (rz_w v (rz_ua a 26 f) g) 0 0 (fun q w' => q = .inl none ∧ ∃ f, w' = rz_w v (rz_ua a 26 f) g ∧ ∀ k, k < n → f k = rz_lv R n k) := by
      intro x hx
      subst hx
      refine ev_ps 4 rfl (ev_ic (cd := .gt) rfl (fun h => ?_) (fun h => ?_))
      · exact ev_ps 1 rfl (s124 0 (by unfold rz_wr; exact (if_pos (rc_gt_t h)).symm))
      · refine ev_ps 3 rfl (ev_ald rfl rfl hin ?_)
        rw [show (rz_ua a 26 f) 21 = a 21 from rfl, e]
        refine ev_call (av := [_]) rfl rfl rfl rfl ⟨Nat.le_of_ble_eq_true rfl, rfl⟩ ⟨Nat.le_of_ble_eq_true rfl, Nat.le_of_ble_eq_true rfl⟩ (m_bit _) ?_
        rintro _ _ ⟨rfl, rfl⟩
        exact ev_ps 1 rfl (s124 _ (by unfold rz_wr; exact (if_neg (rc_gt_f h)).symm))
    have s72 : ∀ (x : Int32) (l4 : Option Value), x = rz_b1 n f (a 20 p) p → rz_E xs xl 86 72 [some (.ref 25), some (.int c), some (.int (Int32.ofNat p)), some (.int (a 20 p)), l4, l5, l6] [.int x] (rz_w v (rz_ua a 26 f) g) 0 0 (fun q w' => q = .inl none ∧ ∃ f, w' = rz_w v (rz_ua a 26 f) g ∧ ∀ k, k < n → f k = rz_lv R n k) := by
      intro x l4 hx
      subst hx
      refine ev_ps 4 rfl (ev_ic (cd := .lt) rfl (fun h => ?_) (fun h => ?_))
      · exact ev_ps 1 rfl (s102 0 (by unfold rz_b2; exact (if_neg (fun q => q.1 (rc_lt_t h))).symm))
      · refine ev_ps 2 rfl (ev_ic (cd := .gt) rfl (fun h2 => ?_) (fun h2 => ?_))
        · exact ev_ps 1 rfl (s102 0 (by unfold rz_b2; exact (if_neg (fun q => q.2 (rc_gt_t h2))).symm))
        · refine ev_ps 4 rfl (ev_ald rfl rfl hin ?_)
          rw [show (rz_ua a 26 f) 23 = a 23 from rfl, e, ht]
          refine ev_call (av := [_, _]) rfl rfl rfl rfl ⟨Nat.le_of_ble_eq_true rfl, rfl⟩ ⟨Nat.le_of_ble_eq_true rfl, Nat.le_of_ble_eq_true rfl⟩ (m_livesAt hv hn b4) ?_
          rintro _ _ ⟨rfl, rfl⟩
          exact ev_ps 1 rfl (s102 _ (by unfold rz_b2; rw [ht, rz_clamp (by omega)]; exact (if_pos ⟨rc_lt_f h, rc_gt_f h2⟩).symm))
    refine ev_ps 3 rfl (ev_ald rfl rfl hin ?_)
    rw [show (rz_ua a 26 f) 20 = a 20 from rfl, e]
    refine ev_ps 3 rfl (ev_ic (cd := .eq) rfl (fun h => ?_) (fun h => ?_))
    · exact ev_ps 2 rfl (s72 0 _ (by unfold rz_b1; exact (if_pos (Or.inl (rc_eq_t h))).symm))
    · refine ev_ps 2 rfl (ev_ic (cd := .ne) rfl (fun h2 => ?_) (fun h2 => ?_))
      · refine ev_ps 4 rfl ?_
        refine ev_call (av := [.ref 25, .int (Int32.ofNat (p + 1))]) rfl (by rw [← rz_succ]; rfl) rfl rfl ⟨Nat.le_of_ble_eq_true rfl, rfl⟩ ⟨Nat.le_of_ble_eq_true rfl, Nat.le_of_ble_eq_true rfl⟩ (m_livesAt hv hn (by omega)) ?_
        rintro _ _ ⟨rfl, rfl⟩
        exact s72 _ _ (by unfold rz_b1; exact (if_neg (fun q => q.elim (rc_eq_f h) (rc_ne_t h2))).symm)
      · exact ev_ps 2 rfl (s72 0 _ (by unfold rz_b1; exact (if_pos (Or.inr (rc_ne_f h2))).symm))
  have sweep : ∀ (c : Int32) (j : Nat) (f : Nat → Int32) (l2 l3 l4 l5 l6 : Option Value), (c = 0 ∨ c = 1) → (c = 0 → rz_sw (rz_fam R) n n (rz_it (rz_fam R) n j) = rz_it (rz_fam R) n j) → (∀ k, k < n → f k = rz_it (rz_fam R) n j k) → rz_E xs xl 86 25 [some (.ref 25), some (.int c), l2, l3, l4, l5, l6] [] (rz_w v (rz_ua a 26 f) g) 0 0 (fun q w' => q = .inl none ∧ ∃ f, w' = rz_w v (rz_ua a 26 f) g ∧ ∀ k, k < n → f k = rz_lv R n k) := by
    intro c j f l2 l3 l4 l5 l6 hc hst hf
    refine ev_loop (α := Int32 × Nat × Option Value × Option Value × Option Value × Option Value × Option Value × (Nat → Int32)) (fun r => 2 * rz_mz (rz_it (rz_fam R) n r.2.1) n + (if r.1 = 1 then 1 else 0)) (fun r => (r.1 = 0 ∨ r.1 = 1) ∧ (r.1 = 0 → rz_sw (rz_fam R) n n (rz_it (rz_fam R) n r.2.1) = rz_it (rz_fam R) n r.2.1) ∧ ∀ k, k < n → r.2.2.2.2.2.2.2 k = rz_it (rz_fam R) n r.2.1 k) (fun r => [some (.ref 25), some (.int r.1), r.2.2.1, r.2.2.2.1, r.2.2.2.2.1, r.2.2.2.2.2.1, r.2.2.2.2.2.2.1]) (fun _ => []) (fun r => rz_w v (rz_ua a 26 r.2.2.2.2.2.2.2) g) ?_ (c, j, l2, l3, l4, l5, l6, f) ⟨hc, hst, hf⟩
    rintro ⟨c, j, l2, l3, l4, l5, l6, f0⟩ ⟨hc, hst, hf0⟩ ih
    dsimp only at hc hst hf0 ih ⊢
    refine ev_ps 1 rfl (ev_if (cd := .eq) rfl (fun h => ?_) (fun h => ?_))
    · exact ev_ret rfl rfl ⟨rfl, f0, rfl, fun k hk => by rw [hf0 k hk, rz_it_eq hfl hn (hst (rc_eq_t h))]; rfl⟩
    · have hc1 : c = 1 := hc.resolve_left (rc_eq_f h)
      rw [if_pos hc1] at ih
      obtain ⟨k1, k2, k3⟩ := rz_sw_K hfl n (Nat.le_refl _) _ (rz_it_K hfl j)
      refine ev_ps 7 rfl ?_
      refine ev_l (L2 := [some (.ref 25), some (.int 0), some (.int (Int32.ofNat n - 1)), l3, l4, l5, l6]) (by rw [← hv]; rfl) ?_
      refine ev_loop (α := Nat × Int32 × Option Value × Option Value × Option Value × Option Value × (Nat → Int32) × (Nat → Int32)) (fun r => r.1) (fun r => r.1 ≤ n ∧ (r.2.1 = 0 ∨ r.2.1 = 1) ∧ (∀ k, k < n → r.2.2.2.2.2.2.1 k = r.2.2.2.2.2.2.2 k) ∧ rz_K (rz_fam R) n r.2.2.2.2.2.2.2 ∧ rz_sw (rz_fam R) n r.1 r.2.2.2.2.2.2.2 = rz_sw (rz_fam R) n n (rz_it (rz_fam R) n j) ∧ (r.2.1 = 0 → r.2.2.2.2.2.2.2 = rz_it (rz_fam R) n j) ∧ rz_mz r.2.2.2.2.2.2.2 n ≤ rz_mz (rz_it (rz_fam R) n j) n ∧ (r.2.1 = 1 → rz_mz r.2.2.2.2.2.2.2 n < rz_mz (rz_it (rz_fam R) n j) n)) (fun r => [some (.ref 25), some (.int r.2.1), some (.int (Int32.ofNat r.1 - 1)), r.2.2.1, r.2.2.2.1, r.2.2.2.2.1, r.2.2.2.2.2.1]) (fun _ => []) (fun r => rz_w v (rz_ua a 26 r.2.2.2.2.2.2.1) g) ?_ (n, 0, l3, l4, l5, l6, f0, rz_it (rz_fam R) n j) ⟨Nat.le_refl _, Or.inl rfl, hf0, rz_it_K hfl j, rfl, fun _ => rfl, Nat.le_refl _, fun q => absurd (show (0 : Int32) = 1 from q) (by decide)⟩
      rintro ⟨k, c2, l3, l4, l5, l6, f, φ⟩ ⟨hk, hc2, hfφ, hKφ, hsw, hc0, hm1, hm2⟩ ih2
      dsimp only at hk hc2 hfφ hKφ hsw hc0 hm1 hm2 ih2 ⊢
      refine ev_ps 1 rfl (ev_if (cd := .lt) rfl (fun h => ?_) (fun h => ?_))
      · have hk0 : k = 0 := by
          rcases Nat.eq_zero_or_pos k with h0 | h0
          · exact h0
          · exfalso
            have h1 := rc_lt_t h
            rw [show Int32.ofNat k - 1 = Int32.ofNat (k - 1) from rz_sub (n := 1) h0] at h1
            exact absurd ((rz_lt_iff (k := 0) (by omega) (by omega)).mp h1) (by omega)
        subst hk0
        have hsw' : φ = rz_sw (rz_fam R) n n (rz_it (rz_fam R) n j) := hsw
        have h9 := ih (c2, j + 1, some (.int (Int32.ofNat 0 - 1)), l3, l4, l5, l6, f) ⟨hc2, fun q => by
          have e1 := hc0 q
          have e2 : rz_sw (rz_fam R) n n (rz_it (rz_fam R) n j) = rz_it (rz_fam R) n j := hsw'.symm.trans e1
          show rz_sw (rz_fam R) n n (rz_sw (rz_fam R) n n (rz_it (rz_fam R) n j)) = rz_sw (rz_fam R) n n (rz_it (rz_fam R) n j)
          rw [e2, e2], fun i hi => (hfφ i hi).trans (congrFun hsw' i)⟩ (by
          show 2 * rz_mz (rz_sw (rz_fam R) n n (rz_it (rz_fam R) n j)) n + (if c2 = 1 then 1 else 0) < 2 * rz_mz (rz_it (rz_fam R) n j) n + 1
          rw [← hsw']
          rcases hc2 with h0 | h1
          · rw [h0, if_neg (by decide)]; omega
          · rw [if_pos h1]; have := hm2 h1; omega)
        exact ev_ps 1 rfl h9
      · have hk0 : 0 < k := by
          rcases Nat.eq_zero_or_pos k with rfl | h0
          · exact absurd (by decide : Int32.ofNat 0 - 1 < 0) (rc_lt_f h)
          · exact h0
        rw [show Int32.ofNat k - 1 = Int32.ofNat (k - 1) from rz_sub (n := 1) hk0]
        have hF : rz_Fp a n f (k - 1) = rz_Fp (rz_fam R) n φ (k - 1) := (rz_Fp_pr hpr (by omega)).trans (rz_Fp_cg hfφ)
        refine place c2 (k - 1) f l3 l4 l5 l6 (by omega) (fun d l3 l4 l5 l6 hd hd0 hd1 => ?_)
        rw [hF] at hd0 hd1 ⊢
        rw [hfφ (k - 1) (by omega)] at hd0 hd1
        obtain ⟨j1, j2, j3⟩ := rz_K_step hKφ (show k - 1 < n by omega) (hfl (k - 1) (by omega))
        have h9 := ih2 (k - 1, d, l3, l4, l5, l6, upd f (k - 1) (rz_Fp (rz_fam R) n φ (k - 1)), upd φ (k - 1) (rz_Fp (rz_fam R) n φ (k - 1))) ⟨by show k - 1 ≤ n; omega, hd, fun i hi => by
          by_cases hik : i = k - 1
          · simp [upd, hik]
          · simp only [upd, hik, if_false]; exact hfφ i hi, j1, by
          rw [show k = (k - 1) + 1 by omega] at hsw
          exact hsw, fun q => by
          obtain ⟨z1, z2⟩ := hd0 q
          exact (rz_upd_self z2).trans (hc0 z1), Nat.le_trans j2 hm1, fun q => by
          rcases hd1 q with h1 | h1
          · exact Nat.lt_of_le_of_lt j2 (hm2 (hc2.resolve_left h1))
          · exact Nat.lt_of_lt_of_le (j3 h1) hm1⟩ (by show k - 1 < k; omega)
        dsimp only at h9
        rw [show Int32.ofNat (k - 1) - 1 = Int32.ofNat (k - 1) + Int32.ofInt (-1) from Int32.sub_eq_add_neg _ _] at h9
        exact ev_ps 2 rfl h9
  refine ev_ps 2 rfl (ev_w (w2 := rz_w v (rz_ua a 26 (a 26)) g) rfl ?_)
  refine ev_loop (α := Nat × (Nat → Int32)) (fun r => n - r.1) (fun r => r.1 ≤ n ∧ ∀ j, j < r.1 → r.2 j = 0) (fun r => [some (.ref 25), some (.int (Int32.ofNat r.1)), none, none, none, none, none]) (fun _ => []) (fun r => rz_w v (rz_ua a 26 r.2) g) ?_ (0, a 26) ⟨Nat.zero_le _, fun j hj => absurd hj (by omega)⟩
  rintro ⟨k, f⟩ ⟨hk, hf⟩ ih
  dsimp only at hk hf ih ⊢
  refine ev_ps 3 rfl (ev_ic (cd := .ge) rfl (fun h => ?_) (fun h => ?_))
  · have h' : rz_cmp .ge (Int32.ofNat k) (v 21) = true := h
    rw [hv] at h'
    have hkn : n ≤ k := rn_ge_t (by omega) (by omega) h'
    exact ev_ps 2 rfl (sweep 1 0 f _ _ _ _ _ (Or.inr rfl) (fun q => absurd q (by decide)) (fun j hj => by rw [hf j (by omega)]; rfl))
  · have h' : rz_cmp .ge (Int32.ofNat k) (v 21) = false := h
    rw [hv] at h'
    have hk' : k < n := rn_ge_f (by omega) (by omega) h'
    refine ev_ps 4 rfl (ev_ast rfl rfl (rz_in (by omega) (by decide)) ?_)
    have h9 := ih (k + 1, upd f k 0) ⟨by show k + 1 ≤ n; omega, fun j hj => by
      by_cases hjk : j = k
      · simp [upd, hjk]
      · simp [upd, hjk]; exact hf j (by have : j < k + 1 := hj; omega)⟩ (by show n - (k + 1) < n - k; omega)
    dsimp only at h9
    rw [← rz_succ k] at h9
    exact ev_w (w2 := rz_w v (rz_ua a 26 (upd f k 0)) g) (by rw [rz_clamp (by omega)]; rfl) (ev_ps 2 rfl h9)
end RZX2
/-! the reference, exactly: the search, the cut, improving -/
section RZX3
variable {xs : Nat → Int32} {xl : Nat} {v : Nat → Int32} {a : Nat → Nat → Int32} {g : Nat → Int64} {R : Nat → rz_Q}
theorem rz_ca.rw {a' : Nat → Nat → Int32} {k : Nat} {q : rz_Q} (h : rz_ca a a') (hk : k < 24) (hr : rz_rw a k q) : rz_rw a' k q := by
  unfold rz_rw at hr ⊢
  rw [h.2.1 20 (by omega) (by omega) k hk, h.2.1 21 (by omega) (by omega) k hk, h.2.1 22 (by omega) (by omega) k hk, h.2.1 23 (by omega) (by omega) k hk]
  exact hr
/-- and the reference's lives are as they were -/
def rz_cb (a a' : Nat → Nat → Int32) : Prop := rz_ca a a' ∧ a' 26 = a 26
theorem rz_cb.put {a' : Nat → Nat → Int32} (h : rz_cb a a') {o d s t : Int32} (hLI : rz_LI o d s t) : rz_cb a (rz_pt a' 24 o d s t) := ⟨h.1.put hLI, h.2⟩
theorem rz_cb.ua {a' : Nat → Nat → Int32} (h : rz_cb a a') {i : Nat} (hi : 27 ≤ i) (f : Nat → Int32) : rz_cb a (rz_ua a' i f) := ⟨h.1.ua (by omega) f, (show rz_ua a' i f 26 = a' 26 from if_neg (by omega)).trans h.2⟩
theorem rz_cb.rw {a' : Nat → Nat → Int32} {k : Nat} {q : rz_Q} (h : rz_cb a a') (hk : k < 24) (hr : rz_rw a k q) : rz_rw a' k q := h.1.rw hk hr
theorem m_isFoundX {p m n l : Nat} (z : Int32) (hli : rz_li a 24) (hn : n ≤ 24) (hpm : p + m ≤ n) (hpr : rz_pr a R n) (hl : rz_lgs R n) (hv6 : v 26 = Int32.ofNat l) : rz_C xs xl 100 [.ref 25, .int (Int32.ofNat p), .int (Int32.ofNat m), .int z] (rz_w v a g) (fun r w' => ∃ (j : Nat) (a' : Nat → Nat → Int32), j ≤ 1920 ∧ (∀ i, i < j → ¬ rz_ht R p m z i) ∧ (j < 1920 → rz_ht R p m z j) ∧ r = .inl (some (.int (if j < 1920 then 1 else 0))) ∧ rz_cb a a' ∧ (j < 1920 → rz_rw a' 24 (rz_cq j)) ∧ w' = rz_w (rz_up v 26 (Int32.ofNat (l + rz_ct (rz_ch R p m) (if j < 1920 then j + 1 else 1920)))) a' g) := by
  refine ev_ps 2 rfl (ev_w (w2 := rz_w (rz_up v 26 (Int32.ofNat (l + rz_ct (rz_ch R p m) 0))) a g) (by
    have e : rz_up v 26 (Int32.ofNat (l + rz_ct (rz_ch R p m) 0)) = v := by
      funext j
      unfold rz_up
      by_cases hj : j = 26
      · rw [if_pos hj, hj, hv6]; rfl
      · rw [if_neg hj]
    rw [e]) ?_)
  refine ev_loop (α := Nat × Option Value × Option Value × Option Value × Option Value × (Nat → Nat → Int32)) (fun r => 1920 - r.1) (fun r => r.1 ≤ 1920 ∧ rz_cb a r.2.2.2.2.2 ∧ ∀ i, i < r.1 → ¬ rz_ht R p m z i) (fun r => [some (.ref 25), some (.int (Int32.ofNat p)), some (.int (Int32.ofNat m)), some (.int z), some (.int (Int32.ofNat r.1)), r.2.1, r.2.2.1, r.2.2.2.1, r.2.2.2.2.1]) (fun _ => []) (fun r => rz_w (rz_up v 26 (Int32.ofNat (l + rz_ct (rz_ch R p m) r.1))) r.2.2.2.2.2 g) ?_ (0, none, none, none, none, a) ⟨Nat.zero_le _, ⟨⟨fun _ _ => rfl, fun _ _ _ _ _ => rfl, rfl, rfl, hli⟩, rfl⟩, fun i hi => absurd hi (Nat.not_lt_zero _)⟩
  rintro ⟨k, t5, t6, t7, t8, a1⟩ ⟨hk, hca, hno⟩ ih
  dsimp only at hk hca hno ih ⊢
  refine ev_ps 2 rfl (ev_ic (cd := .ge) rfl (fun h => ?_) (fun h => ?_))
  · have hkn : 1920 ≤ k := rn_ge_t (k := 1920) (by omega) (by omega) h
    have e : k = 1920 := by omega
    subst e
    exact ev_ps 1 rfl (ev_ret rfl rfl ⟨1920, a1, Nat.le_refl _, hno, fun q => absurd q (by omega), rfl, hca, fun q => absurd q (by omega), rfl⟩)
  · have hk' : k < 1920 := rn_ge_f (k := 1920) (by omega) (by omega) h
    obtain ⟨k1, k2, k3, k4⟩ := rz_kd k hk'
    have next : ∀ (t5 t6 t7 t8 : Option Value) (y : Int32) (a1 : Nat → Nat → Int32), rz_cb a a1 → y = Int32.ofNat (l + rz_ct (rz_ch R p m) (k + 1)) → ¬ rz_ht R p m z k → rz_E xs xl 100 112 [some (.ref 25), some (.int (Int32.ofNat p)), some (.int (Int32.ofNat m)), some (.int z), some (.int (Int32.ofNat k)), t5, t6, t7, t8] [] (rz_w (rz_up v 26 y) a1 g) 0 0 (fun r w' => ∃ (j : Nat) (a' : Nat → Nat → Int32), j ≤ 1920 ∧ (∀ i, i < j → ¬ rz_ht R p m z i) ∧ (j < 1920 → rz_ht R p m z j) ∧ r = .inl (some (.int (if j < 1920 then 1 else 0))) ∧ rz_cb a a' ∧ (j < 1920 → rz_rw a' 24 (rz_cq j)) ∧ w' = rz_w (rz_up v 26 (Int32.ofNat (l + rz_ct (rz_ch R p m) (if j < 1920 then j + 1 else 1920)))) a' g) := by
      intro t5 t6 t7 t8 y a1 hca hy hnk
      subst hy
      have h9 := ih (k + 1, t5, t6, t7, t8, a1) ⟨by show k + 1 ≤ 1920; omega, hca, fun i hi => by
        by_cases hik : i = k
        · rw [hik]; exact hnk
        · exact hno i (by have : i < k + 1 := hi; omega)⟩ (by show 1920 - (k + 1) < 1920 - k; omega)
      dsimp only at h9
      rw [← rz_succ k] at h9
      exact ev_ps 2 rfl h9
    have skip : ¬ rz_ch R p m k → rz_E xs xl 100 112 [some (.ref 25), some (.int (Int32.ofNat p)), some (.int (Int32.ofNat m)), some (.int z), some (.int (Int32.ofNat k)), some (.int (Int32.ofNat (k / 192))), some (.int (Int32.ofNat (1 + k / 64 % 3))), some (.int (Int32.ofNat (k / 16 % 4))), some (.int (Int32.ofNat (k % 16)))] [] (rz_w (rz_up v 26 (Int32.ofNat (l + rz_ct (rz_ch R p m) k))) a1 g) 0 0 (fun r w' => ∃ (j : Nat) (a' : Nat → Nat → Int32), j ≤ 1920 ∧ (∀ i, i < j → ¬ rz_ht R p m z i) ∧ (j < 1920 → rz_ht R p m z j) ∧ r = .inl (some (.int (if j < 1920 then 1 else 0))) ∧ rz_cb a a' ∧ (j < 1920 → rz_rw a' 24 (rz_cq j)) ∧ w' = rz_w (rz_up v 26 (Int32.ofNat (l + rz_ct (rz_ch R p m) (if j < 1920 then j + 1 else 1920)))) a' g) := fun hnc =>
      next _ _ _ _ _ _ hca (by rw [rz_ct, rz_dc_f hnc]; rfl) (fun q => hnc q.1)
    refine ev_ps 22 rfl ?_
    refine ev_l (L2 := [some (.ref 25), some (.int (Int32.ofNat p)), some (.int (Int32.ofNat m)), some (.int z), some (.int (Int32.ofNat k)), some (.int (Int32.ofNat (k / 192))), some (.int (Int32.ofNat (1 + k / 64 % 3))), some (.int (Int32.ofNat (k / 16 % 4))), some (.int (Int32.ofNat (k % 16)))]) (by rw [← k1, ← k2, ← k3, ← k4]; rfl) ?_
    have try1 : rz_ch R p m k → rz_E xs xl 100 73 [some (.ref 25), some (.int (Int32.ofNat p)), some (.int (Int32.ofNat m)), some (.int z), some (.int (Int32.ofNat k)), some (.int (Int32.ofNat (k / 192))), some (.int (Int32.ofNat (1 + k / 64 % 3))), some (.int (Int32.ofNat (k / 16 % 4))), some (.int (Int32.ofNat (k % 16)))] [] (rz_w (rz_up v 26 (Int32.ofNat (l + rz_ct (rz_ch R p m) k))) a1 g) 0 0 (fun r w' => ∃ (j : Nat) (a' : Nat → Nat → Int32), j ≤ 1920 ∧ (∀ i, i < j → ¬ rz_ht R p m z i) ∧ (j < 1920 → rz_ht R p m z j) ∧ r = .inl (some (.int (if j < 1920 then 1 else 0))) ∧ rz_cb a a' ∧ (j < 1920 → rz_rw a' 24 (rz_cq j)) ∧ w' = rz_w (rz_up v 26 (Int32.ofNat (l + rz_ct (rz_ch R p m) (if j < 1920 then j + 1 else 1920)))) a' g) := by
      intro hch
      have hlg := rz_ch_lg hk' hch
      have hLI : rz_LI (Int32.ofNat (k / 192)) (Int32.ofNat (1 + k / 64 % 3)) (Int32.ofNat (k / 16 % 4)) (Int32.ofNat (k % 16)) := ⟨_, _, _, _, rfl, rfl, rfl, rfl, hlg.1, hlg.2.1, hlg.2.2.1, hlg.2.2.2.1, hlg.2.2.2.2⟩
      refine ev_ps 6 rfl ?_
      refine ev_call (av := [.ref 25, .int (Int32.ofNat 24), _, _, _, _]) rfl rfl rfl rfl ⟨Nat.le_of_ble_eq_true rfl, rfl⟩ ⟨Nat.le_of_ble_eq_true rfl, Nat.le_of_ble_eq_true rfl⟩ (m_put (k := 24) (by omega) _ _ _ _) ?_
      rintro _ _ ⟨rfl, rfl⟩
      have hca2 := hca.put hLI
      have hrow24 : rz_rw (rz_pt a1 24 (Int32.ofNat (k / 192)) (Int32.ofNat (1 + k / 64 % 3)) (Int32.ofNat (k / 16 % 4)) (Int32.ofNat (k % 16))) 24 (rz_cq k) := by
        refine ⟨hlg, ?_, ?_, ?_, ?_⟩
        · show upd (a1 20) 24 _ 24 = _; simp [upd]; rfl
        · show upd (a1 21) 24 _ 24 = _; simp only [upd, if_true]; rfl
        · show upd (a1 22) 24 _ 24 = _; simp only [upd, if_true]; rfl
        · show upd (a1 23) 24 _ 24 = _; simp only [upd, if_true]; rfl
      have ecount : Int32.ofNat (l + rz_ct (rz_ch R p m) k) + Int32.ofInt 1 = Int32.ofNat (l + rz_ct (rz_ch R p m) (k + 1)) := by
        rw [rz_ct, rz_dc_t hch, if_pos rfl, ← Nat.add_assoc]
        exact rz_succ _
      refine ev_ps 6 rfl (ev_w (w2 := rz_w (rz_up v 26 (Int32.ofNat (l + rz_ct (rz_ch R p m) (k + 1)))) (rz_pt a1 24 (Int32.ofNat (k / 192)) (Int32.ofNat (1 + k / 64 % 3)) (Int32.ofNat (k / 16 % 4)) (Int32.ofNat (k % 16))) g) (by rw [← ecount]; rfl) ?_)
      refine ev_ps 6 rfl ?_
      refine ev_call (av := [.ref 25, .int (Int32.ofNat p), .int (Int32.ofNat m), .int (Int32.ofNat 24), .int (Int32.ofNat 1), .int z]) rfl rfl rfl rfl ⟨Nat.le_of_ble_eq_true rfl, rfl⟩ ⟨Nat.le_of_ble_eq_true rfl, Nat.le_of_ble_eq_true rfl⟩ (m_agreeX (R1 := R) (R2 := fun _ => rz_cq k) z (by omega) (by omega) (fun i hi => hca2.rw (by omega) (rz_pr_rw hpr hl (by omega))) (fun i hi => by
        have e0 : i = 0 := by omega
        subst e0
        exact hrow24)) ?_
      rintro _ _ ⟨⟨u, hu, hui, rfl⟩, f1, f2, rfl⟩
      have hca3 := (hca2.ua (i := 27) (by omega) f1).ua (i := 28) (by omega) f2
      refine ev_if (cd := .eq) rfl (fun h => next _ _ _ _ _ _ hca3 rfl (fun q => ?_)) (fun h => ?_)
      · exact absurd ((rc_eq_t h).symm.trans (hui.mpr q.2)) (by decide)
      · have hht : rz_ht R p m z k := ⟨hch, hui.mp (hu.resolve_left (rc_eq_f h))⟩
        refine ev_ps 1 rfl (ev_ret rfl rfl ⟨k, _, by omega, hno, fun _ => hht, by rw [if_pos hk']; rfl, hca3, fun _ => hrow24, ?_⟩)
        rw [if_pos hk']
    refine ev_ps 2 rfl (ev_ic (cd := .ge) rfl (fun h => ?_) (fun h => ?_))
    · have h6 : 6 ≤ k / 192 := rn_ge_t (k := 6) (by omega) (by omega) h
      have ech : rz_ch R p m k = rz_cd R p m (k % 16) := by unfold rz_ch; rw [if_neg (by omega)]
      refine ev_ps 4 rfl (ev_call (av := [_, _, _, _]) rfl rfl rfl rfl ⟨Nat.le_of_ble_eq_true rfl, rfl⟩ ⟨Nat.le_of_ble_eq_true rfl, Nat.le_of_ble_eq_true rfl⟩ (m_isCandidateX (a := a1) (R := R) (by omega) (by omega) (fun i h1 h2 => hca.rw (by omega) (rz_pr_rw hpr hl (by omega)))) ?_)
      rintro _ _ ⟨⟨u, hu, hui, rfl⟩, rfl⟩
      refine ev_if (cd := .eq) rfl (fun h => skip ?_) (fun h => try1 ?_)
      · rw [ech]; exact fun q => absurd ((rc_eq_t h).symm.trans (hui.mpr q)) (by decide)
      · rw [ech]; exact hui.mp (hu.resolve_left (rc_eq_f h))
    · have h6 : k / 192 < 6 := rn_ge_f (k := 6) (by omega) (by omega) h
      have ech : rz_ch R p m k = (k % 16 < 4) := by unfold rz_ch; rw [if_pos h6]
      refine ev_ps 2 rfl (ev_ic (cd := .ge) rfl (fun h => skip ?_) (fun h => ?_))
      · have h4 : 4 ≤ k % 16 := rn_ge_t (k := 4) (by omega) (by omega) h
        rw [ech]; omega
      · have h4 : k % 16 < 4 := rn_ge_f (k := 4) (by omega) (by omega) h
        exact ev_ps 1 rfl (try1 (by rw [ech]; exact h4))
/-- the values of row k -/
def rz_ro (a : Nat → Nat → Int32) (k : Nat) (q : rz_Q) : Prop := a 20 k = Int32.ofNat q.1 ∧ a 21 k = Int32.ofNat q.2.1 ∧ a 22 k = Int32.ofNat q.2.2.1 ∧ a 23 k = Int32.ofNat q.2.2.2
theorem rz_pt_ro {k j : Nat} {o d s t : Int32} {q : rz_Q} (h : j = k → o = Int32.ofNat q.1 ∧ d = Int32.ofNat q.2.1 ∧ s = Int32.ofNat q.2.2.1 ∧ t = Int32.ofNat q.2.2.2) (h2 : j ≠ k → rz_ro a j q) : rz_ro (rz_pt a k o d s t) j q := by
  show upd (a 20) k o j = _ ∧ upd (a 21) k d j = _ ∧ upd (a 22) k s j = _ ∧ upd (a 23) k t j = _
  by_cases hj : j = k
  · simp only [upd, hj, if_true]
    exact h hj
  · simp only [upd, hj, if_false]
    exact h2 hj
theorem m_cutX {p m n b : Nat} {q : rz_Q} (hv : v 21 = Int32.ofNat n) (hn : n ≤ 24) (hir : rz_ir R n p m) (hb : b ≤ 1) (hbm : b ≤ m) (hpr : rz_pr a R n) (hl : rz_lgs R n) (hli : rz_li a 24) (hq : b ≠ 0 → rz_rw a 24 q ∧ q.1 ≤ 9) : rz_C xs xl 102 [.ref 25, .int (Int32.ofNat p), .int (Int32.ofNat m), .int (Int32.ofNat b)] (rz_w v a g) (fun r w' => r = .inl none ∧ ∃ v' a', w' = rz_w v' a' g ∧ rz_mf v a v' a' ∧ v' 21 = Int32.ofNat (n - (m - b)) ∧ rz_pr a' (rz_cu R p m b q) (n - (m - b)) ∧ a' 24 = a 24 ∧ a' 25 = a 25 ∧ rz_li a' 24 ∧ v' 24 = v 24 + 1 ∧ v' 25 = v 25 + (if b = 0 then 1 else 0) ∧ ∀ j, j ≠ 21 → j ≠ 24 → j ≠ 25 → v' j = v j) := by
  have hpm := hir.1
  have hq2 : b ≠ 0 → rz_lg q ∧ q.1 ≤ 9 := fun h => ⟨(hq h).1.1, (hq h).2⟩
  refine ev_ps 4 rfl (ev_l (L2 := [some (.ref 25), some (.int (Int32.ofNat p)), some (.int (Int32.ofNat m)), some (.int (Int32.ofNat b)), some (.int (Int32.ofNat (m - b))), none]) (by rw [← rz_sub hbm]; rfl) ?_)
  -- the second loop, and the end
  have two : ∀ a1 : Nat → Nat → Int32, (rz_mf v a v a1 ∧ a1 24 = a 24 ∧ a1 25 = a 25 ∧ rz_li a1 24) → (∀ k, k < n - (m - b) → rz_ro a1 k (rz_sh R p m b q k)) → ∀ l5, rz_E xs xl 102 112 [some (.ref 25), some (.int (Int32.ofNat p)), some (.int (Int32.ofNat m)), some (.int (Int32.ofNat b)), some (.int (Int32.ofNat (m - b))), l5] [] (rz_w v a1 g) 0 0 (fun r w' => r = .inl none ∧ ∃ v' a', w' = rz_w v' a' g ∧ rz_mf v a v' a' ∧ v' 21 = Int32.ofNat (n - (m - b)) ∧ rz_pr a' (rz_cu R p m b q) (n - (m - b)) ∧ a' 24 = a 24 ∧ a' 25 = a 25 ∧ rz_li a' 24 ∧ v' 24 = v 24 + 1 ∧ v' 25 = v 25 + (if b = 0 then 1 else 0) ∧ ∀ j, j ≠ 21 → j ≠ 24 → j ≠ 25 → v' j = v j) := by
    rintro a1 ⟨hf1, g1, g2, g3⟩ hr1 l5
    refine ev_ps 6 rfl (ev_w (w2 := rz_w (rz_up v 21 (Int32.ofNat (n - (m - b)))) a1 g) (by rw [← rz_sub (k := n) (n := m - b) (by omega), ← hv]; rfl) ?_)
    refine ev_ps 2 rfl ?_
    refine ev_loop (α := Nat × (Nat → Nat → Int32)) (fun r => n - (m - b) - r.1) (fun r => r.1 ≤ n - (m - b) ∧ (rz_mf v a v r.2 ∧ r.2 24 = a 24 ∧ r.2 25 = a 25 ∧ rz_li r.2 24) ∧ (∀ k, k < r.1 → rz_ro r.2 k (rz_cu R p m b q k)) ∧ (∀ k, r.1 ≤ k → k < n - (m - b) → rz_ro r.2 k (rz_sh R p m b q k))) (fun r => [some (.ref 25), some (.int (Int32.ofNat p)), some (.int (Int32.ofNat m)), some (.int (Int32.ofNat b)), some (.int (Int32.ofNat (m - b))), some (.int (Int32.ofNat r.1))]) (fun _ => []) (fun r => rz_w (rz_up v 21 (Int32.ofNat (n - (m - b)))) r.2 g) ?_ (0, a1) ⟨Nat.zero_le _, ⟨hf1, g1, g2, g3⟩, fun k hk => absurd hk (Nat.not_lt_zero _), fun k _ hk => hr1 k hk⟩
    rintro ⟨k, a2⟩ ⟨hk, ⟨hf, g1, g2, g3⟩, hdone, htodo⟩ ih
    dsimp only at hk hf g1 g2 g3 hdone htodo ih ⊢
    refine ev_ps 3 rfl (ev_ic (cd := .ge) rfl (fun h => ?_) (fun h => ?_))
    · have hkk : n - (m - b) ≤ k := rn_ge_t (by omega) (by omega) h
      refine ev_ps 6 rfl (ev_w (w2 := rz_w (rz_up (rz_up v 21 (Int32.ofNat (n - (m - b)))) 24 (v 24 + 1)) a2 g) rfl ?_)
      have fin : ∀ y : Int32, y = (if b = 0 then 1 else 0) → rz_E xs xl 102 212 [some (.ref 25), some (.int (Int32.ofNat p)), some (.int (Int32.ofNat m)), some (.int (Int32.ofNat b)), some (.int (Int32.ofNat (m - b))), some (.int (Int32.ofNat k))] [.int y, .int (v 25), .ref 25] (rz_w (rz_up (rz_up v 21 (Int32.ofNat (n - (m - b)))) 24 (v 24 + 1)) a2 g) 0 0 (fun r w' => r = .inl none ∧ ∃ v' a', w' = rz_w v' a' g ∧ rz_mf v a v' a' ∧ v' 21 = Int32.ofNat (n - (m - b)) ∧ rz_pr a' (rz_cu R p m b q) (n - (m - b)) ∧ a' 24 = a 24 ∧ a' 25 = a 25 ∧ rz_li a' 24 ∧ v' 24 = v 24 + 1 ∧ v' 25 = v 25 + (if b = 0 then 1 else 0) ∧ ∀ j, j ≠ 21 → j ≠ 24 → j ≠ 25 → v' j = v j) := fun y hy => by
        refine ev_ps 2 rfl (ev_w (w2 := rz_w (rz_up (rz_up (rz_up v 21 (Int32.ofNat (n - (m - b)))) 24 (v 24 + 1)) 25 (v 25 + y)) a2 g) rfl ?_)
        exact ev_ret rfl rfl ⟨rfl, _, _, rfl, ((hf.up (by omega) _).up (by omega) _).up (by omega) _, rfl, fun j hj => hdone j (by omega), g1, g2, g3, rfl, by rw [← hy]; rfl, fun j h1 h2 h3 => by simp only [rz_up, h1, h2, h3, if_false]⟩
      refine ev_ps 4 rfl (ev_if (cd := .ne) rfl (fun h => ?_) (fun h => ?_))
      · exact ev_ps 1 rfl (fin 0 (by rw [if_neg (fun q => rc_ne_t h (by rw [q]; rfl))]))
      · have hb0 : b = 0 := (rz_eq_iff (k := 0) (by omega) (by omega)).mp (rc_ne_f h)
        exact ev_ps 2 rfl (fin 1 (by rw [if_pos hb0]))
    · have hkk : k < n - (m - b) := rn_ge_f (by omega) (by omega) h
      have hin : ¬ (Int32.ofNat k < 0 ∨ 25 ≤ (Int32.ofNat k).toNatClampNeg) := rz_in (by omega) (by decide)
      have e := rz_clamp (k := k) (by omega)
      obtain ⟨e1, e2, e3, e4⟩ := htodo k (Nat.le_refl _) hkk
      obtain ⟨⟨b1, b2, b3, b4, b5⟩, hgo⟩ := rz_sh_ok hl hir hbm hq2 hkk
      have next : ∀ a3 : Nat → Nat → Int32, (rz_mf v a v a3 ∧ a3 24 = a 24 ∧ a3 25 = a 25 ∧ rz_li a3 24) → (∀ j, j < k + 1 → rz_ro a3 j (rz_cu R p m b q j)) → (∀ j, k + 1 ≤ j → j < n - (m - b) → rz_ro a3 j (rz_sh R p m b q j)) → rz_E xs xl 102 182 [some (.ref 25), some (.int (Int32.ofNat p)), some (.int (Int32.ofNat m)), some (.int (Int32.ofNat b)), some (.int (Int32.ofNat (m - b))), some (.int (Int32.ofNat k))] [] (rz_w (rz_up v 21 (Int32.ofNat (n - (m - b)))) a3 g) 0 0 (fun r w' => r = .inl none ∧ ∃ v' a', w' = rz_w v' a' g ∧ rz_mf v a v' a' ∧ v' 21 = Int32.ofNat (n - (m - b)) ∧ rz_pr a' (rz_cu R p m b q) (n - (m - b)) ∧ a' 24 = a 24 ∧ a' 25 = a 25 ∧ rz_li a' 24 ∧ v' 24 = v 24 + 1 ∧ v' 25 = v 25 + (if b = 0 then 1 else 0) ∧ ∀ j, j ≠ 21 → j ≠ 24 → j ≠ 25 → v' j = v j) := by
        intro a3 hkeep hd ht
        have h9 := ih (k + 1, a3) ⟨by show k + 1 ≤ _; omega, hkeep, hd, ht⟩ (by show n - (m - b) - (k + 1) < n - (m - b) - k; omega)
        dsimp only at h9
        rw [← rz_succ k] at h9
        exact ev_ps 2 rfl h9
      have same : ¬ (12 ≤ (rz_sh R p m b q k).1 ∧ (rz_sh R p m b q k).1 ≤ 14 ∧ p < (rz_sh R p m b q k).2.2.2) → rz_E xs xl 102 182 [some (.ref 25), some (.int (Int32.ofNat p)), some (.int (Int32.ofNat m)), some (.int (Int32.ofNat b)), some (.int (Int32.ofNat (m - b))), some (.int (Int32.ofNat k))] [] (rz_w (rz_up v 21 (Int32.ofNat (n - (m - b)))) a2 g) 0 0 (fun r w' => r = .inl none ∧ ∃ v' a', w' = rz_w v' a' g ∧ rz_mf v a v' a' ∧ v' 21 = Int32.ofNat (n - (m - b)) ∧ rz_pr a' (rz_cu R p m b q) (n - (m - b)) ∧ a' 24 = a 24 ∧ a' 25 = a 25 ∧ rz_li a' 24 ∧ v' 24 = v 24 + 1 ∧ v' 25 = v 25 + (if b = 0 then 1 else 0) ∧ ∀ j, j ≠ 21 → j ≠ 24 → j ≠ 25 → v' j = v j) := fun hno => next a2 ⟨hf, g1, g2, g3⟩ (fun j hj => by
        by_cases hjk : j = k
        · have ecu : rz_cu R p m b q k = rz_sh R p m b q k := by unfold rz_cu rz_mv; rw [if_neg hno]
          rw [hjk, ecu]; exact ⟨e1, e2, e3, e4⟩
        · exact hdone j (by omega)) (fun j h1 h2 => htodo j (by omega) h2)
      refine ev_ps 3 rfl (ev_ald rfl rfl hin ?_)
      rw [e, e1]
      refine ev_ps 1 rfl (ev_ic (cd := .lt) rfl (fun h1 => ?_) (fun h1 => ?_))
      · have h2 := rn_lt_t (k := 12) (by omega) (by omega) h1
        exact same (fun q => absurd q.1 (by omega))
      have h12 := rn_lt_f (k := 12) (by omega) (by omega) h1
      refine ev_ps 3 rfl (ev_ald rfl rfl hin ?_)
      rw [e, e1]
      refine ev_ps 1 rfl (ev_ic (cd := .gt) rfl (fun h2 => ?_) (fun h2 => ?_))
      · have h3 := rn_gt_t (k := 14) (by omega) (by omega) h2
        exact same (fun q => absurd q.2.1 (by omega))
      have h14 := rn_gt_f (k := 14) (by omega) (by omega) h2
      refine ev_ps 3 rfl (ev_ald rfl rfl hin ?_)
      rw [e, e4]
      refine ev_ps 1 rfl (ev_ic (cd := .le) rfl (fun h3 => ?_) (fun h3 => ?_))
      · have h4 := rn_le_t (by omega) (by omega) h3
        exact same (fun q => absurd q.2.2 (by omega))
      have hgt := rn_le_f (by omega) (by omega) h3
      have hfar := hgo h12 h14 hgt
      refine ev_ps 4 rfl (ev_ald rfl rfl hin ?_)
      rw [e, e4]
      refine ev_ps 2 rfl (ev_ast rfl rfl hin ?_)
      rw [e]
      refine ev_w (w2 := rz_w (rz_up v 21 (Int32.ofNat (n - (m - b)))) (rz_ua a2 23 (upd (a2 23) k (Int32.ofNat ((rz_sh R p m b q k).2.2.2 - (m - b))))) g) (by rw [← rz_sub (k := (rz_sh R p m b q k).2.2.2) (n := m - b) (by omega)]; rfl) ?_
      refine next _ ⟨hf.ua (by omega) _, g1, g2, ?_⟩ (fun j hj => ?_) (fun j h1 h2 => ?_)
      · show rz_LI (a2 20 24) (a2 21 24) (a2 22 24) (upd (a2 23) k _ 24)
        simp only [upd]
        rw [if_neg (by omega)]
        exact g3
      · show a2 20 j = _ ∧ a2 21 j = _ ∧ a2 22 j = _ ∧ upd (a2 23) k _ j = _
        by_cases hjk : j = k
        · have ecu : rz_cu R p m b q k = ((rz_sh R p m b q k).1, (rz_sh R p m b q k).2.1, (rz_sh R p m b q k).2.2.1, (rz_sh R p m b q k).2.2.2 - (m - b)) := by unfold rz_cu rz_mv; rw [if_pos ⟨h12, h14, hgt⟩]
          rw [hjk, ecu]
          exact ⟨e1, e2, e3, by simp [upd]⟩
        · simp only [upd, hjk, if_false]
          exact hdone j (by omega)
      · show a2 20 j = _ ∧ a2 21 j = _ ∧ a2 22 j = _ ∧ upd (a2 23) k _ j = _
        simp only [upd]
        rw [if_neg (by omega)]
        exact htodo j (by omega) h2
  -- the first loop
  have one : ∀ a1 : Nat → Nat → Int32, (rz_mf v a v a1 ∧ a1 24 = a 24 ∧ a1 25 = a 25 ∧ rz_li a1 24) → (∀ k, k < p + b → rz_ro a1 k (rz_sh R p m b q k)) → (∀ k, p + b ≤ k → k < n → rz_ro a1 k (R k)) → rz_E xs xl 102 43 [some (.ref 25), some (.int (Int32.ofNat p)), some (.int (Int32.ofNat m)), some (.int (Int32.ofNat b)), some (.int (Int32.ofNat (m - b))), none] [] (rz_w v a1 g) 0 0 (fun r w' => r = .inl none ∧ ∃ v' a', w' = rz_w v' a' g ∧ rz_mf v a v' a' ∧ v' 21 = Int32.ofNat (n - (m - b)) ∧ rz_pr a' (rz_cu R p m b q) (n - (m - b)) ∧ a' 24 = a 24 ∧ a' 25 = a 25 ∧ rz_li a' 24 ∧ v' 24 = v 24 + 1 ∧ v' 25 = v 25 + (if b = 0 then 1 else 0) ∧ ∀ j, j ≠ 21 → j ≠ 24 → j ≠ 25 → v' j = v j) := by
    intro a1 hkeep hlow hhigh
    refine ev_ps 4 rfl (ev_l (L2 := [some (.ref 25), some (.int (Int32.ofNat p)), some (.int (Int32.ofNat m)), some (.int (Int32.ofNat b)), some (.int (Int32.ofNat (m - b))), some (.int (Int32.ofNat (p + b)))]) (by rw [← rz_add]; rfl) ?_)
    refine ev_loop (α := Nat × (Nat → Nat → Int32)) (fun r => n - r.1) (fun r => p + b ≤ r.1 ∧ r.1 + (m - b) ≤ n ∧ (rz_mf v a v r.2 ∧ r.2 24 = a 24 ∧ r.2 25 = a 25 ∧ rz_li r.2 24) ∧ (∀ k, k < r.1 → rz_ro r.2 k (rz_sh R p m b q k)) ∧ (∀ k, r.1 ≤ k → k < n → rz_ro r.2 k (R k))) (fun r => [some (.ref 25), some (.int (Int32.ofNat p)), some (.int (Int32.ofNat m)), some (.int (Int32.ofNat b)), some (.int (Int32.ofNat (m - b))), some (.int (Int32.ofNat r.1))]) (fun _ => []) (fun r => rz_w v r.2 g) ?_ (p + b, a1) ⟨Nat.le_refl _, by show p + b + (m - b) ≤ n; omega, hkeep, hlow, hhigh⟩
    rintro ⟨k, a2⟩ ⟨hpk, hk, hkeep, hlow, hhigh⟩ ih
    dsimp only at hpk hk hkeep hlow hhigh ih ⊢
    refine ev_ps 5 rfl (ev_ic (cd := .ge) rfl (fun h => ?_) (fun h => ?_))
    · rw [rz_add, hv] at h
      have hkk : n ≤ k + (m - b) := rn_ge_t (by omega) (by omega) h
      exact two a2 hkeep (fun j hj => hlow j (by omega)) _
    rw [rz_add, hv] at h
    have hkk : k + (m - b) < n := rn_ge_f (by omega) (by omega) h
    have hin : ¬ (Int32.ofNat k + Int32.ofNat (m - b) < 0 ∨ 25 ≤ (Int32.ofNat k + Int32.ofNat (m - b)).toNatClampNeg) := by rw [rz_add]; exact rz_in (by omega) (by decide)
    refine ev_ps 7 rfl (ev_ald rfl rfl hin ?_)
    refine ev_ps 5 rfl (ev_ald rfl rfl hin ?_)
    refine ev_ps 5 rfl (ev_ald rfl rfl hin ?_)
    refine ev_ps 5 rfl (ev_ald rfl rfl hin ?_)
    refine ev_call (av := [.ref 25, .int (Int32.ofNat k), .int (a2 20 (k + (m - b))), .int (a2 21 (k + (m - b))), .int (a2 22 (k + (m - b))), .int (a2 23 (k + (m - b)))]) rfl (by rw [rz_add, rz_clamp (by omega)]; rfl) rfl rfl ⟨Nat.le_of_ble_eq_true rfl, rfl⟩ ⟨Nat.le_of_ble_eq_true rfl, Nat.le_of_ble_eq_true rfl⟩ (m_put (k := k) (by omega) _ _ _ _) ?_
    rintro _ _ ⟨rfl, rfl⟩
    obtain ⟨hf, g1, g2, g3⟩ := hkeep
    have esh : rz_sh R p m b q k = R (k + (m - b)) := by unfold rz_sh; rw [if_neg (by omega), if_neg (by omega)]
    have h9 := ih (k + 1, rz_pt a2 k (a2 20 (k + (m - b))) (a2 21 (k + (m - b))) (a2 22 (k + (m - b))) (a2 23 (k + (m - b)))) ⟨by show p + b ≤ k + 1; omega, by show k + 1 + (m - b) ≤ n; omega, ⟨rz_pt_mf hf, g1, g2, rz_pt_li (fun q => absurd q (by omega)) (fun _ => g3)⟩, fun j hj => rz_pt_ro (fun hjk => by rw [hjk, esh]; exact hhigh (k + (m - b)) (by omega) hkk) (fun hjk => hlow j (by have : j < k + 1 := hj; omega)), fun j h1 h2 => rz_pt_ro (fun hjk => absurd (show k + 1 ≤ j from h1) (by omega)) (fun _ => hhigh j (by have : k + 1 ≤ j := h1; omega) h2)⟩ (by show n - (k + 1) < n - k; omega)
    dsimp only at h9
    rw [← rz_succ k] at h9
    exact ev_ps 2 rfl h9
  have shl : ∀ k, k < p → rz_sh R p m b q k = R k := fun k hk => by unfold rz_sh; rw [if_pos hk]
  refine ev_ps 2 rfl (ev_ic (cd := .ne) rfl (fun h => ?_) (fun h => ?_))
  · have hb1 : ¬ b = 1 := fun q => rc_ne_t h (by rw [q]; rfl)
    exact one a ⟨rz_mf.rf, rfl, rfl, hli⟩ (fun k hk => by rw [shl k (by omega)]; exact hpr k (by omega)) (fun k _ h2 => hpr k h2)
  have eb : b = 1 := (rz_eq_iff (k := 1) (by omega) (by omega)).mp (rc_ne_f h)
  have hin : ¬ ((24 : Int32) < 0 ∨ 25 ≤ (24 : Int32).toNatClampNeg) := by decide
  refine ev_ps 5 rfl (ev_ald rfl rfl hin ?_)
  refine ev_ps 3 rfl (ev_ald rfl rfl hin ?_)
  refine ev_ps 3 rfl (ev_ald rfl rfl hin ?_)
  refine ev_ps 3 rfl (ev_ald rfl rfl hin ?_)
  refine ev_call (av := [.ref 25, .int (Int32.ofNat p), .int (a 20 24), .int (a 21 24), .int (a 22 24), .int (a 23 24)]) rfl rfl rfl rfl ⟨Nat.le_of_ble_eq_true rfl, rfl⟩ ⟨Nat.le_of_ble_eq_true rfl, Nat.le_of_ble_eq_true rfl⟩ (m_put (k := p) (by omega) _ _ _ _) ?_
  rintro _ _ ⟨rfl, rfl⟩
  refine one _ ⟨rz_pt_mf rz_mf.rf, rfl, rfl, rz_pt_li (fun q => absurd q (by omega)) (fun _ => hli)⟩ (fun k hk => rz_pt_ro (fun hkp => ?_) (fun hkp => ?_)) (fun k h1 h2 => rz_pt_ro (fun hkp => absurd h1 (by omega)) (fun _ => hpr k h2))
  · have esh : rz_sh R p m b q k = q := by unfold rz_sh; rw [if_neg (by omega), if_pos (by omega)]
    rw [esh]
    exact (hq (by omega)).1.2
  · rw [shl k (by omega)]; exact hpr k (by omega)
end RZX3
/-! the reference, exactly: improving -/
section RZX4
variable {xs : Nat → Int32} {xl : Nat} {v : Nat → Int32} {a : Nat → Nat → Int32} {g : Nat → Int64} {R : Nat → rz_Q} {n p k l j : Nat}
theorem rz_IM_no (h : ¬ rz_ir R n p (k + 1)) : rz_IM R n p (k + 1) l = rz_IM R n p k l := by
  rw [rz_IM, rz_dc_f h]; rfl
theorem rz_IM_nd (h : rz_ir R n p (k + 1)) (h2 : rz_nd R p (k + 1) (rz_S R n (p + (k + 1)))) : rz_IM R n p (k + 1) l = (some (k + 1, none), l + 1) := by
  rw [rz_IM, rz_dc_t h, if_pos rfl, rz_dc_t h2, if_pos rfl]
theorem rz_IM_1 (h : rz_ir R n p (k + 1)) (h2 : ¬ rz_nd R p (k + 1) (rz_S R n (p + (k + 1)))) (hk : ¬ 1 < k + 1) : rz_IM R n p (k + 1) l = rz_IM R n p k (l + 1) := by
  rw [rz_IM, rz_dc_t h, if_pos rfl, rz_dc_f h2, if_neg (by decide), if_neg hk]
theorem rz_IM_f (h : rz_ir R n p (k + 1)) (h2 : ¬ rz_nd R p (k + 1) (rz_S R n (p + (k + 1)))) (hk : 1 < k + 1) (hj : j < 1920) (hx : rz_jx R p (k + 1) (rz_S R n (p + (k + 1))) = j) : rz_IM R n p (k + 1) l = (some (k + 1, some j), l + 1 + rz_ct (rz_ch R p (k + 1)) (j + 1)) := by
  rw [rz_IM, rz_dc_t h, if_pos rfl, rz_dc_f h2, if_neg (by decide), if_pos hk, hx, if_pos hj]
theorem rz_IM_g (h : rz_ir R n p (k + 1)) (h2 : ¬ rz_nd R p (k + 1) (rz_S R n (p + (k + 1)))) (hk : 1 < k + 1) (hj : ¬ j < 1920) (hx : rz_jx R p (k + 1) (rz_S R n (p + (k + 1))) = j) : rz_IM R n p (k + 1) l = rz_IM R n p k (l + 1 + rz_ct (rz_ch R p (k + 1)) 1920) := by
  rw [rz_IM, rz_dc_t h, if_pos rfl, rz_dc_f h2, if_neg (by decide), if_pos hk, hx, if_neg hj]
/-- the reference holds this program and these counts -/
def rz_RR (v : Nat → Int32) (a : Nat → Nat → Int32) (R : Nat → rz_Q) (n r b l : Nat) : Prop := n ≤ 24 ∧ v 21 = Int32.ofNat n ∧ rz_pr a R n ∧ rz_lgs R n ∧ rz_li a 24 ∧ rz_sm (a 24) 12 ∧ rz_sm (a 25) 12 ∧ v 24 = Int32.ofNat r ∧ v 25 = Int32.ofNat b ∧ v 26 = Int32.ofNat l
/-- its machine is as it was -/
def rz_ks (v : Nat → Int32) (a : Nat → Nat → Int32) (v' : Nat → Int32) (a' : Nat → Nat → Int32) : Prop := v' 22 = v 22 ∧ v' 23 = v 23 ∧ a' 24 = a 24 ∧ a' 25 = a 25
theorem rz_ks.rf : rz_ks v a v a := ⟨rfl, rfl, rfl, rfl⟩
theorem rz_ks.tr {v1 v2 : Nat → Int32} {a1 a2 : Nat → Nat → Int32} (h : rz_ks v a v1 a1) (h2 : rz_ks v1 a1 v2 a2) : rz_ks v a v2 a2 := ⟨h2.1.trans h.1, h2.2.1.trans h.2.1, h2.2.2.1.trans h.2.2.1, h2.2.2.2.trans h.2.2.2⟩
theorem rz_RR.mi {r b : Nat} (h : rz_RR v a R n r b l) : rz_mi v a := ⟨⟨n, h.1, h.2.1, fun k hk => rz_pr_li h.2.2.1 h.2.2.2.1 hk⟩, h.2.2.2.2.1, h.2.2.2.2.2.1, h.2.2.2.2.2.2.1⟩
/-- arrays 26 and on are scratch -/
theorem rz_RR.ua {r b i : Nat} (h : rz_RR v a R n r b l) (hi : 26 ≤ i) (f : Nat → Int32) : rz_RR v (rz_ua a i f) R n r b l := by
  have e : ∀ j, j < 26 → rz_ua a i f j = a j := fun j hj => if_neg (by omega)
  obtain ⟨h1, h2, h3, h4, h5, h6, h7, h8⟩ := h
  refine ⟨h1, h2, fun k hk => ?_, h4, ?_, ?_, ?_, h8⟩
  · rw [e 20 (by omega), e 21 (by omega), e 22 (by omega), e 23 (by omega)]; exact h3 k hk
  · show rz_LI (rz_ua a i f 20 24) (rz_ua a i f 21 24) (rz_ua a i f 22 24) (rz_ua a i f 23 24)
    rw [e 20 (by omega), e 21 (by omega), e 22 (by omega), e 23 (by omega)]; exact h5
  · rw [e 24 (by omega)]; exact h6
  · rw [e 25 (by omega)]; exact h7
theorem m_improvedX {r b : Nat} (hR : rz_RR v a R n r b l) (hp : p < n) : rz_C xs xl 98 [.ref 25, .int (Int32.ofNat p)] (rz_w v a g) (fun q w' => ∃ (v' : Nat → Int32) (a' : Nat → Nat → Int32), q = .inl (some (.int (rz_im R n p r b l).1)) ∧ w' = rz_w v' a' g ∧ rz_mf v a v' a' ∧ rz_ks v a v' a' ∧ rz_RR v' a' (rz_im R n p r b l).2.1 (rz_im R n p r b l).2.2.1 (rz_im R n p r b l).2.2.2.1 (rz_im R n p r b l).2.2.2.2.1 (rz_im R n p r b l).2.2.2.2.2 ∧ (rz_im R n p r b l).2.2.1 - rz_nx p (rz_im R n p r b l).1 < n - p) := by
  have hn := hR.1
  refine ev_ps 1 rfl (ev_call (av := [_]) rfl rfl rfl rfl ⟨Nat.le_of_ble_eq_true rfl, rfl⟩ ⟨Nat.le_of_ble_eq_true rfl, Nat.le_of_ble_eq_true rfl⟩ (m_findLivesX hn hR.2.1 hR.2.2.1 hR.2.2.2.1) ?_)
  rintro _ _ ⟨rfl, f0, rfl, hf0⟩
  refine ev_ps 2 rfl ?_
  refine ev_loop (α := Nat × Option Value × Option Value × (Nat → Int32) × (Nat → Nat → Int32) × Nat) (fun r => r.1) (fun t => t.1 ≤ 3 ∧ rz_mf v a t.2.2.2.1 t.2.2.2.2.1 ∧ rz_ks v a t.2.2.2.1 t.2.2.2.2.1 ∧ rz_RR t.2.2.2.1 t.2.2.2.2.1 R n r b t.2.2.2.2.2 ∧ (∀ k, k < n → t.2.2.2.2.1 26 k = rz_lv R n k) ∧ rz_IM R n p 3 l = rz_IM R n p t.1 t.2.2.2.2.2) (fun r => [some (.ref 25), some (.int (Int32.ofNat p)), some (.int (Int32.ofNat r.1)), r.2.1, r.2.2.1]) (fun _ => []) (fun r => rz_w r.2.2.2.1 r.2.2.2.2.1 g) ?_ (3, none, none, v, rz_ua a 26 f0, l) ⟨Nat.le_refl _, rz_mf.rf.ua (by omega) _, rz_ks.rf, hR.ua (by omega) _, hf0, rfl⟩
  rintro ⟨mm, l3, l4, v1, a1, lk⟩ ⟨hm, hf, hk, hR1, h26, hIM⟩ ih
  dsimp only at hm hf hk hR1 h26 hIM ih ⊢
  refine ev_ps 1 rfl (ev_if (cd := .le) rfl (fun h => ?_) (fun h => ?_))
  · have hm0 : mm = 0 := by have := rn_le_t (k := 0) (by omega) (by omega) h; omega
    subst hm0
    have eim : rz_im R n p r b l = (-1, R, n, r, b, lk) := by unfold rz_im; rw [hIM]; rfl
    exact ev_ps 1 rfl (ev_ret rfl rfl ⟨v1, a1, by rw [eim]; rfl, rfl, hf, hk, by rw [eim]; exact hR1, by rw [eim]; show n - (p + 1) < n - p; omega⟩)
  · obtain ⟨k, rfl⟩ : ∃ k, mm = k + 1 := ⟨mm - 1, by have := rn_le_f (k := 0) (by omega) (by omega) h; omega⟩
    have next : ∀ (l3 l4 : Option Value) (v2 : Nat → Int32) (a2 : Nat → Nat → Int32) (lk2 : Nat), rz_mf v a v2 a2 → rz_ks v a v2 a2 → rz_RR v2 a2 R n r b lk2 → (∀ k, k < n → a2 26 k = rz_lv R n k) → rz_IM R n p 3 l = rz_IM R n p k lk2 → rz_E xs xl 98 91 [some (.ref 25), some (.int (Int32.ofNat p)), some (.int (Int32.ofNat (k + 1))), l3, l4] [] (rz_w v2 a2 g) 0 0 (fun q w' => ∃ (v' : Nat → Int32) (a' : Nat → Nat → Int32), q = .inl (some (.int (rz_im R n p r b l).1)) ∧ w' = rz_w v' a' g ∧ rz_mf v a v' a' ∧ rz_ks v a v' a' ∧ rz_RR v' a' (rz_im R n p r b l).2.1 (rz_im R n p r b l).2.2.1 (rz_im R n p r b l).2.2.2.1 (rz_im R n p r b l).2.2.2.2.1 (rz_im R n p r b l).2.2.2.2.2 ∧ (rz_im R n p r b l).2.2.1 - rz_nx p (rz_im R n p r b l).1 < n - p) := by
      intro l3 l4 v2 a2 lk2 hf2 hk2 hR2 h262 hIM2
      have h9 := ih (k, l3, l4, v2, a2, lk2) ⟨by show k ≤ 3; omega, hf2, hk2, hR2, h262, hIM2⟩ (by show k < k + 1; omega)
      dsimp only at h9
      rw [show Int32.ofNat k = Int32.ofNat (k + 1) + Int32.ofInt (-1) from by
        rw [← rz_succ k]
        exact (Int32.add_sub_cancel (Int32.ofNat k) 1).symm.trans (Int32.sub_eq_add_neg _ _)] at h9
      exact ev_ps 2 rfl h9
    refine ev_ps 3 rfl (ev_call (av := [_, _, _]) rfl rfl rfl rfl ⟨Nat.le_of_ble_eq_true rfl, rfl⟩ ⟨Nat.le_of_ble_eq_true rfl, Nat.le_of_ble_eq_true rfl⟩ (m_isRowX hR1.2.1 hn (by omega) hm (by omega) hR1.2.2.1 hR1.2.2.2.1) ?_)
    rintro _ _ ⟨⟨u, hu, hui, rfl⟩, rfl⟩
    refine ev_if (cd := .eq) rfl (fun h1 => ?_) (fun h1 => ?_)
    · have hir : ¬ rz_ir R n p (k + 1) := fun q => absurd ((rc_eq_t h1).symm.trans (hui.mpr q)) (by decide)
      exact next _ _ _ _ _ hf hk hR1 h26 (hIM.trans (rz_IM_no hir))
    have hir : rz_ir R n p (k + 1) := hui.mp (hu.resolve_left (rc_eq_f h1))
    have hpm := hir.1
    refine ev_ps 4 rfl ?_
    refine ev_call (av := [.ref 25, .int (Int32.ofNat (p + (k + 1)))]) rfl (by rw [← rz_add p (k + 1)]; rfl) rfl rfl ⟨Nat.le_of_ble_eq_true rfl, rfl⟩ ⟨Nat.le_of_ble_eq_true rfl, Nat.le_of_ble_eq_true rfl⟩ (m_livesAt hR1.2.1 hn (by omega)) ?_
    rintro _ _ ⟨rfl, rfl⟩
    rw [show rz_at n (a1 26) (p + (k + 1)) = rz_S R n (p + (k + 1)) from rz_at_cg h26]
    refine ev_ps 7 rfl (ev_w (w2 := rz_w (rz_up v1 26 (Int32.ofNat (lk + 1))) a1 g) (by rw [← rz_succ lk, ← hR1.2.2.2.2.2.2.2.2.2]; rfl) ?_)
    have hup : ∀ (y : Nat), rz_mf v a (rz_up v1 26 (Int32.ofNat y)) a1 ∧ rz_ks v a (rz_up v1 26 (Int32.ofNat y)) a1 ∧ rz_RR (rz_up v1 26 (Int32.ofNat y)) a1 R n r b y := fun y => ⟨hf.up (by omega) _, hk, hR1.1, hR1.2.1, hR1.2.2.1, hR1.2.2.2.1, hR1.2.2.2.2.1, hR1.2.2.2.2.2.1, hR1.2.2.2.2.2.2.1, hR1.2.2.2.2.2.2.2.1, hR1.2.2.2.2.2.2.2.2.1, rfl⟩
    -- the end of a turn
    have fin : ∀ (c : Nat) (q : rz_Q) (l3 l4 : Option Value) (v2 : Nat → Int32) (a2 : Nat → Nat → Int32) (lk2 : Nat), c ≤ 1 → rz_mf v a v2 a2 → rz_ks v a v2 a2 → rz_RR v2 a2 R n r b lk2 → (c ≠ 0 → rz_rw a2 24 q ∧ q.1 ≤ 9) → rz_im R n p r b l = (Int32.ofNat c, rz_cu R p (k + 1) c q, n - (k + 1 - c), r + 1, (if c = 0 then b + 1 else b), lk2) → rz_E xs xl 98 73 [some (.ref 25), some (.int (Int32.ofNat p)), some (.int (Int32.ofNat (k + 1))), l3, l4] [.int (Int32.ofNat c)] (rz_w v2 a2 g) 0 0 (fun q w' => ∃ (v' : Nat → Int32) (a' : Nat → Nat → Int32), q = .inl (some (.int (rz_im R n p r b l).1)) ∧ w' = rz_w v' a' g ∧ rz_mf v a v' a' ∧ rz_ks v a v' a' ∧ rz_RR v' a' (rz_im R n p r b l).2.1 (rz_im R n p r b l).2.2.1 (rz_im R n p r b l).2.2.2.1 (rz_im R n p r b l).2.2.2.2.1 (rz_im R n p r b l).2.2.2.2.2 ∧ (rz_im R n p r b l).2.2.1 - rz_nx p (rz_im R n p r b l).1 < n - p) := by
      intro c q l3 l4 v2 a2 lk2 hc hf2 hk2 hR2 hq eim
      refine ev_ps 2 rfl (ev_if (cd := .lt) rfl (fun h2 => ?_) (fun h2 => ?_))
      · exact absurd (rn_lt_t (k := 0) (by omega) (by omega) h2) (by omega)
      · refine ev_ps 4 rfl (ev_call (av := [_, _, _, _]) rfl rfl rfl rfl ⟨Nat.le_of_ble_eq_true rfl, rfl⟩ ⟨Nat.le_of_ble_eq_true rfl, Nat.le_of_ble_eq_true rfl⟩ (m_cutX (q := q) hR2.2.1 hn hir hc (by omega) hR2.2.2.1 hR2.2.2.2.1 hR2.2.2.2.2.1 hq) ?_)
        rintro _ _ ⟨rfl, v3, a3, rfl, hf3, hv3, hpr3, g24, g25, gli, hr3, hb3, hoth⟩
        refine ev_ps 1 rfl (ev_ret rfl rfl ⟨v3, a3, by rw [eim], rfl, hf2.tr hf3, hk2.tr ⟨hoth 22 (by omega) (by omega) (by omega), hoth 23 (by omega) (by omega) (by omega), g24, g25⟩, ?_, ?_⟩)
        · rw [eim]
          obtain ⟨-, -, -, hlg2, -, hs2, hs3, hr2, hb2, hl2⟩ := hR2
          refine ⟨by show n - (k + 1 - c) ≤ 24; omega, hv3, hpr3, rz_cu_lg hlg2 hir (by omega) (fun h => ⟨(hq h).1.1, (hq h).2⟩), gli, by rw [g24]; exact hs2, by rw [g25]; exact hs3, ?_, ?_, ?_⟩
          · rw [hr3, hr2]; exact rz_succ r
          · rw [hb3, hb2]
            by_cases h0 : c = 0
            · rw [if_pos h0, if_pos h0]; exact rz_succ b
            · rw [if_neg h0, if_neg h0]; exact Int32.add_zero _
          · rw [hoth 26 (by omega) (by omega) (by omega)]; exact hl2
        · rw [eim]
          show n - (k + 1 - c) - rz_nx p (Int32.ofNat c) < n - p
          unfold rz_nx
          by_cases h0 : c = 0
          · subst h0
            rw [if_pos (show Int32.ofNat 0 = 0 from rfl)]; omega
          · have hne : ¬ Int32.ofNat c = 0 := fun q => h0 ((rz_eq_iff (k := 0) (by omega) (by omega)).mp q)
            rw [if_neg hne]
            omega
    have fin1 : ∀ (l3 l4 : Option Value) (v2 : Nat → Int32) (a2 : Nat → Nat → Int32) (lk2 : Nat), rz_mf v a v2 a2 → rz_ks v a v2 a2 → rz_RR v2 a2 R n r b lk2 → (∀ k, k < n → a2 26 k = rz_lv R n k) → rz_IM R n p 3 l = rz_IM R n p k lk2 → rz_E xs xl 98 72 [some (.ref 25), some (.int (Int32.ofNat p)), some (.int (Int32.ofNat (k + 1))), l3, l4] [] (rz_w v2 a2 g) 0 0 (fun q w' => ∃ (v' : Nat → Int32) (a' : Nat → Nat → Int32), q = .inl (some (.int (rz_im R n p r b l).1)) ∧ w' = rz_w v' a' g ∧ rz_mf v a v' a' ∧ rz_ks v a v' a' ∧ rz_RR v' a' (rz_im R n p r b l).2.1 (rz_im R n p r b l).2.2.1 (rz_im R n p r b l).2.2.2.1 (rz_im R n p r b l).2.2.2.2.1 (rz_im R n p r b l).2.2.2.2.2 ∧ (rz_im R n p r b l).2.2.1 - rz_nx p (rz_im R n p r b l).1 < n - p) := by
      intro l3 l4 v2 a2 lk2 h1 h2 h3 h4 h5
      refine ev_ps 3 rfl (ev_if (cd := .lt) rfl (fun h2 => next _ _ _ _ _ h1 (by assumption) h3 h4 h5) (fun h2 => ?_))
      exact absurd (show (-1 : Int32) < 0 by decide) (rc_lt_f h2)
    refine ev_ps 6 rfl ?_
    refine ev_call (av := [.ref 25, .int (Int32.ofNat p), .int (Int32.ofNat (k + 1)), .int (Int32.ofNat p), .int (Int32.ofNat 0), _]) rfl rfl rfl rfl ⟨Nat.le_of_ble_eq_true rfl, rfl⟩ ⟨Nat.le_of_ble_eq_true rfl, Nat.le_of_ble_eq_true rfl⟩ (m_agreeX (R1 := R) (R2 := R) _ (by omega) (by omega) (fun i hi => rz_pr_rw hR1.2.2.1 hR1.2.2.2.1 (by omega)) (fun i hi => absurd hi (Nat.not_lt_zero _))) ?_
    rintro _ _ ⟨⟨u2, hu2, hui2, rfl⟩, f1, f2, rfl⟩
    have hnd : u2 = 1 ↔ rz_nd R p (k + 1) (rz_S R n (p + (k + 1))) := hui2
    obtain ⟨hf2, hk2, hR2⟩ := hup (lk + 1)
    have hf3 : rz_mf v a (rz_up v1 26 (Int32.ofNat (lk + 1))) (rz_ua (rz_ua a1 27 f1) 28 f2) := (hf2.ua (by omega) _).ua (by omega) _
    have hR3 : rz_RR (rz_up v1 26 (Int32.ofNat (lk + 1))) (rz_ua (rz_ua a1 27 f1) 28 f2) R n r b (lk + 1) := (hR2.ua (by omega) _).ua (by omega) _
    refine ev_if (cd := .eq) rfl (fun h3 => ?_) (fun h3 => ?_)
    · have hnn : ¬ rz_nd R p (k + 1) (rz_S R n (p + (k + 1))) := fun q => absurd ((rc_eq_t h3).symm.trans (hnd.mpr q)) (by decide)
      refine ev_ps 2 rfl (ev_ic (cd := .le) rfl (fun h4 => ?_) (fun h4 => ?_))
      · have hk1 : ¬ 1 < k + 1 := by have := rn_le_t (k := 1) (by omega) (by omega) h4; omega
        exact fin1 _ _ _ _ _ hf3 hk2 hR3 h26 (hIM.trans (rz_IM_1 hir hnn hk1))
      have hk1 : 1 < k + 1 := rn_le_f (k := 1) (by omega) (by omega) h4
      refine ev_ps 4 rfl (ev_call (av := [_, _, _, _]) rfl rfl rfl rfl ⟨Nat.le_of_ble_eq_true rfl, rfl⟩ ⟨Nat.le_of_ble_eq_true rfl, Nat.le_of_ble_eq_true rfl⟩ (m_isFoundX (R := R) (l := lk + 1) _ hR3.2.2.2.2.1 hn hpm hR3.2.2.1 hR3.2.2.2.1 rfl) ?_)
      rintro _ _ ⟨j, a3, hj, hno, hht, rfl, hca, hrw, rfl⟩
      have hjx : rz_jx R p (k + 1) (rz_S R n (p + (k + 1))) = j := rz_fi_eq hno hht hj
      have hf4 : rz_mf v a (rz_up (rz_up v1 26 (Int32.ofNat (lk + 1))) 26 (Int32.ofNat (lk + 1 + rz_ct (rz_ch R p (k + 1)) (if j < 1920 then j + 1 else 1920)))) a3 := ⟨(hf3.up (by omega) _).1, fun i hi => (hca.1.1 i hi).trans (hf3.2 i hi)⟩
      have hk4 : rz_ks v a (rz_up (rz_up v1 26 (Int32.ofNat (lk + 1))) 26 (Int32.ofNat (lk + 1 + rz_ct (rz_ch R p (k + 1)) (if j < 1920 then j + 1 else 1920)))) a3 := ⟨hk2.1, hk2.2.1, hca.1.2.2.1.trans hk2.2.2.1, hca.1.2.2.2.1.trans hk2.2.2.2⟩
      have hR4 : rz_RR (rz_up (rz_up v1 26 (Int32.ofNat (lk + 1))) 26 (Int32.ofNat (lk + 1 + rz_ct (rz_ch R p (k + 1)) (if j < 1920 then j + 1 else 1920)))) a3 R n r b (lk + 1 + rz_ct (rz_ch R p (k + 1)) (if j < 1920 then j + 1 else 1920)) := ⟨hR3.1, hR3.2.1, fun i hi => (hca.rw (by omega) (rz_pr_rw hR3.2.2.1 hR3.2.2.2.1 hi)).2, hR3.2.2.2.1, hca.1.2.2.2.2, by rw [hca.1.2.2.1]; exact hR3.2.2.2.2.2.1, by rw [hca.1.2.2.2.1]; exact hR3.2.2.2.2.2.2.1, hR3.2.2.2.2.2.2.2.1, hR3.2.2.2.2.2.2.2.2.1, rfl⟩
      by_cases hjl : j < 1920
      · rw [if_pos hjl] at hf4 hk4 hR4 ⊢
        rw [if_pos hjl]
        refine ev_if (cd := .eq) rfl (fun h5 => absurd (rc_eq_t h5) (by decide)) (fun h5 => ?_)
        refine ev_ps 2 rfl (fin 1 (rz_cq j) _ _ _ _ _ (by omega) hf4 hk4 hR4 (fun _ => ⟨hrw hjl, by show j / 192 ≤ 9; omega⟩) ?_)
        unfold rz_im
        rw [hIM, rz_IM_f hir hnn hk1 hjl hjx]
        rfl
      · rw [if_neg hjl] at hf4 hk4 hR4 ⊢
        rw [if_neg hjl]
        refine ev_if (cd := .eq) rfl (fun h5 => ?_) (fun h5 => absurd rfl (rc_eq_f h5))
        refine fin1 _ _ _ _ _ hf4 hk4 hR4 (fun i hi => ?_) (hIM.trans (rz_IM_g hir hnn hk1 hjl hjx))
        rw [hca.2]; exact h26 i hi
    · have hnn : rz_nd R p (k + 1) (rz_S R n (p + (k + 1))) := hnd.mp (hu2.resolve_left (rc_eq_f h3))
      refine ev_ps 2 rfl (fin 0 (0, 0, 0, 0) _ _ _ _ _ (by omega) hf3 hk2 hR3 (fun q => absurd rfl q) ?_)
      unfold rz_im
      rw [hIM, rz_IM_nd hir hnn]
      rfl
theorem rz_IP_step {d r b : Nat} (h : p < n) : rz_IP (d + 1) R n p r b l = rz_IP d (rz_im R n p r b l).2.1 (rz_im R n p r b l).2.2.1 (rz_nx p (rz_im R n p r b l).1) (rz_im R n p r b l).2.2.2.1 (rz_im R n p r b l).2.2.2.2.1 (rz_im R n p r b l).2.2.2.2.2 := by
  rw [rz_IP, if_pos h]
theorem m_improveX {r b : Nat} (hR : rz_RR v a R n r b l) : rz_C xs xl 97 [.ref 25] (rz_w v a g) (fun q w' => ∃ (v' : Nat → Int32) (a' : Nat → Nat → Int32), q = .inl (some (.int (Int32.ofNat n - Int32.ofNat (rz_IP 24 R n 0 r b l).2.1))) ∧ w' = rz_w v' a' g ∧ rz_mf v a v' a' ∧ rz_ks v a v' a' ∧ rz_RR v' a' (rz_IP 24 R n 0 r b l).1 (rz_IP 24 R n 0 r b l).2.1 (rz_IP 24 R n 0 r b l).2.2.1 (rz_IP 24 R n 0 r b l).2.2.2.1 (rz_IP 24 R n 0 r b l).2.2.2.2) := by
  refine ev_ps 3 rfl (ev_w (w2 := rz_w (rz_up v 20 0) a g) rfl ?_)
  refine ev_ps 5 rfl ?_
  refine ev_loop (α := Nat × Option Value × (Nat → Int32) × (Nat → Nat → Int32) × (Nat → rz_Q) × Nat × Nat × Nat × Nat × Nat) (fun t => t.2.2.2.2.2.1 - t.1) (fun t => rz_mf v a t.2.2.1 t.2.2.2.1 ∧ rz_ks v a t.2.2.1 t.2.2.2.1 ∧ rz_RR t.2.2.1 t.2.2.2.1 t.2.2.2.2.1 t.2.2.2.2.2.1 t.2.2.2.2.2.2.1 t.2.2.2.2.2.2.2.1 t.2.2.2.2.2.2.2.2.1 ∧ t.1 ≤ 24 ∧ t.2.2.2.2.2.1 - t.1 ≤ t.2.2.2.2.2.2.2.2.2 ∧ rz_IP 24 R n 0 r b l = rz_IP t.2.2.2.2.2.2.2.2.2 t.2.2.2.2.1 t.2.2.2.2.2.1 t.1 t.2.2.2.2.2.2.1 t.2.2.2.2.2.2.2.1 t.2.2.2.2.2.2.2.2.1) (fun t => [some (.ref 25), some (.int (v 21)), some (.int (Int32.ofNat t.1)), t.2.1]) (fun _ => []) (fun t => rz_w t.2.2.1 t.2.2.2.1 g) ?_ (0, none, rz_up v 20 0, a, R, n, r, b, l, 24) ⟨rz_mf.rf.up (by omega) _, rz_ks.rf, hR, Nat.zero_le _, by show n - 0 ≤ 24; have := hR.1; omega, rfl⟩
  rintro ⟨p, l3, v1, a1, R1, n1, r1, b1, l1, d⟩ ⟨hf, hk, hR1, hp, hd, hIP⟩ ih
  dsimp only at hf hk hR1 hp hd hIP ih ⊢
  have hn1 := hR1.1
  refine ev_ps 3 rfl (ev_ic (cd := .ge) rfl (fun h => ?_) (fun h => ?_))
  · rw [hR1.2.1] at h
    have hnp : n1 ≤ p := rn_ge_t (by omega) (by omega) h
    rw [rz_IP_end hnp] at hIP
    refine ev_ps 4 rfl (ev_ret rfl rfl ⟨v1, a1, ?_, rfl, hf, hk, ?_⟩)
    · rw [hIP, hR.2.1, hR1.2.1]
    · rw [hIP]; exact hR1
  · rw [hR1.2.1] at h
    have hpn : p < n1 := rn_ge_f (by omega) (by omega) h
    obtain ⟨d, rfl⟩ : ∃ e, d = e + 1 := ⟨d - 1, by omega⟩
    replace hIP := hIP.trans (rz_IP_step hpn)
    refine ev_ps 2 rfl (ev_call (av := [_, _]) rfl rfl rfl rfl ⟨Nat.le_of_ble_eq_true rfl, rfl⟩ ⟨Nat.le_of_ble_eq_true rfl, Nat.le_of_ble_eq_true rfl⟩ (m_improvedX hR1 hpn) ?_)
    rintro _ _ ⟨v2, a2, rfl, rfl, hf2, hk2, hR2, hmeas⟩
    have hor : (rz_im R1 n1 p r1 b1 l1).1 = -1 ∨ (rz_im R1 n1 p r1 b1 l1).1 = 0 ∨ (rz_im R1 n1 p r1 b1 l1).1 = 1 := by
      unfold rz_im
      rcases rz_IM R1 n1 p 3 l1 with ⟨_ | ⟨m, _ | j⟩, l⟩
      · exact Or.inl rfl
      · exact Or.inr (Or.inl rfl)
      · exact Or.inr (Or.inr rfl)
    generalize rz_im R1 n1 p r1 b1 l1 = im at hIP hR2 hmeas hor ⊢
    obtain ⟨u, R2, n2, r2, b2, l2⟩ := im
    dsimp only at hIP hR2 hmeas hor ⊢
    have next : ∀ (p2 : Nat) (x : Int32) (l3 : Option Value), x = Int32.ofNat p2 → p2 = rz_nx p u → p2 ≤ 24 → rz_E xs xl 97 39 [some (.ref 25), some (.int (v 21)), some (.int (Int32.ofNat p)), l3] [.int x] (rz_w v2 a2 g) 0 0 (fun q w' => ∃ (v' : Nat → Int32) (a' : Nat → Nat → Int32), q = .inl (some (.int (Int32.ofNat n - Int32.ofNat (rz_IP 24 R n 0 r b l).2.1))) ∧ w' = rz_w v' a' g ∧ rz_mf v a v' a' ∧ rz_ks v a v' a' ∧ rz_RR v' a' (rz_IP 24 R n 0 r b l).1 (rz_IP 24 R n 0 r b l).2.1 (rz_IP 24 R n 0 r b l).2.2.1 (rz_IP 24 R n 0 r b l).2.2.2.1 (rz_IP 24 R n 0 r b l).2.2.2.2) := by
      intro p2 x l3 hx hp2 hle
      subst hx
      subst hp2
      have h9 := ih (rz_nx p u, l3, v2, a2, R2, n2, r2, b2, l2, d) ⟨hf.tr hf2, hk.tr hk2, hR2, hle, by show n2 - rz_nx p u ≤ d; omega, hIP⟩ hmeas
      exact ev_ps 2 rfl h9
    rcases hor with rfl | rfl | rfl
    · refine ev_ps 2 rfl (ev_if (cd := .ge) rfl (fun h2 => absurd (rc_ge_t h2) (by decide)) (fun h2 => ?_))
      exact ev_ps 4 rfl (next (p + 1) _ _ (rz_succ p) rfl (by omega))
    · refine ev_ps 2 rfl (ev_if (cd := .ge) rfl (fun h2 => ?_) (fun h2 => absurd (by decide) (rc_ge_f h2)))
      exact ev_ps 3 rfl (next p _ _ (Int32.add_zero _) rfl (by omega))
    · refine ev_ps 2 rfl (ev_if (cd := .ge) rfl (fun h2 => ?_) (fun h2 => absurd (by decide) (rc_ge_f h2)))
      exact ev_ps 3 rfl (next (p + 1) _ _ (rz_succ p) rfl (by omega))
end RZX4
