/-! the reference's liveness: the search comes to an end, for what is found only grows -/
section RZM4
variable {xs : Nat → Int32} {xl : Nat} {v : Nat → Int32} {a : Nat → Nat → Int32} {g : Nat → Int64}
def rz_at (n : Nat) (f : Nat → Int32) (k : Nat) : Int32 := if k < n then f k else 14
theorem m_livesAt {n k : Nat} (hv : v 21 = Int32.ofNat n) (hn : n ≤ 24) (hk : k ≤ 24) : rz_C xs xl 87 [.ref 25, .int (Int32.ofNat k)] (rz_w v a g) (fun q w' => q = .inl (some (.int (rz_at n (a 26) k))) ∧ w' = rz_w v a g) := by
  refine ev_ps 3 rfl (ev_ic (cd := .lt) rfl (fun h => ?_) (fun h => ?_))
  · rw [hv] at h
    have hkn : k < n := rn_lt_t (by omega) (by omega) h
    refine ev_ps 3 rfl (ev_ald rfl rfl (rz_in (by omega) (by decide)) ?_)
    exact ev_ret rfl rfl ⟨by rw [rz_at, if_pos hkn, rz_clamp (by omega)], rfl⟩
  · rw [hv] at h
    have hkn : n ≤ k := rn_lt_f (by omega) (by omega) h
    exact ev_ps 2 rfl (ev_ret rfl rfl ⟨by rw [rz_at, if_neg (by omega)]; rfl, rfl⟩)
def rz_rd (o d s t : Int32) : Int32 := if 5 < o then (if 10 < o then (if 13 < o then (if o = 14 then 0 else 14) else rz_bit d ||| rz_bit s) else rz_bit s) else rz_bit s ||| rz_bit t
theorem m_reads {k : Nat} (hk : k < 25) : rz_C xs xl 89 [.ref 25, .int (Int32.ofNat k)] (rz_w v a g) (fun q w' => q = .inl (some (.int (rz_rd (a 20 k) (a 21 k) (a 22 k) (a 23 k)))) ∧ w' = rz_w v a g) := by
  have e := rz_clamp (k := k) (by omega)
  have hin : ¬ (Int32.ofNat k < 0 ∨ 25 ≤ (Int32.ofNat k).toNatClampNeg) := rz_in hk (by decide)
  refine ev_ps 3 rfl (ev_ald rfl rfl hin ?_)
  rw [e]
  refine ev_ps 3 rfl (ev_ic (cd := .gt) rfl (fun h1 => ?_) (fun h1 => ?_))
  · have g1 : 5 < a 20 k := rc_gt_t h1
    refine ev_ps 2 rfl (ev_ic (cd := .gt) rfl (fun h2 => ?_) (fun h2 => ?_))
    · have g2 : 10 < a 20 k := rc_gt_t h2
      refine ev_ps 2 rfl (ev_ic (cd := .gt) rfl (fun h3 => ?_) (fun h3 => ?_))
      · have g3 : 13 < a 20 k := rc_gt_t h3
        refine ev_ps 2 rfl (ev_ic (cd := .ne) rfl (fun h4 => ?_) (fun h4 => ?_))
        · have g4 : ¬ a 20 k = 14 := rc_ne_t h4
          exact ev_ps 1 rfl (ev_ret rfl rfl ⟨by rw [rz_rd, if_pos g1, if_pos g2, if_pos g3, if_neg g4]; rfl, rfl⟩)
        · have g4 : a 20 k = 14 := rc_ne_f h4
          exact ev_ps 2 rfl (ev_ret rfl rfl ⟨by rw [rz_rd, if_pos g1, if_pos g2, if_pos g3, if_pos g4]; rfl, rfl⟩)
      · have g3 : ¬ 13 < a 20 k := rc_gt_f h3
        refine ev_ps 3 rfl (ev_ald rfl rfl hin ?_)
        rw [e]
        refine ev_call (av := [_]) rfl rfl rfl rfl ⟨Nat.le_of_ble_eq_true rfl, rfl⟩ ⟨Nat.le_of_ble_eq_true rfl, Nat.le_of_ble_eq_true rfl⟩ (m_bit _) ?_
        rintro _ _ ⟨rfl, rfl⟩
        refine ev_ps 3 rfl (ev_ald rfl rfl hin ?_)
        rw [e]
        refine ev_call (av := [_]) rfl rfl rfl rfl ⟨Nat.le_of_ble_eq_true rfl, rfl⟩ ⟨Nat.le_of_ble_eq_true rfl, Nat.le_of_ble_eq_true rfl⟩ (m_bit _) ?_
        rintro _ _ ⟨rfl, rfl⟩
        exact ev_ps 2 rfl (ev_ret rfl rfl ⟨by rw [rz_rd, if_pos g1, if_pos g2, if_neg g3], rfl⟩)
    · have g2 : ¬ 10 < a 20 k := rc_gt_f h2
      refine ev_ps 3 rfl (ev_ald rfl rfl hin ?_)
      rw [e]
      refine ev_call (av := [_]) rfl rfl rfl rfl ⟨Nat.le_of_ble_eq_true rfl, rfl⟩ ⟨Nat.le_of_ble_eq_true rfl, Nat.le_of_ble_eq_true rfl⟩ (m_bit _) ?_
      rintro _ _ ⟨rfl, rfl⟩
      exact ev_ret rfl rfl ⟨by rw [rz_rd, if_pos g1, if_neg g2], rfl⟩
  · have g1 : ¬ 5 < a 20 k := rc_gt_f h1
    refine ev_ps 3 rfl (ev_ald rfl rfl hin ?_)
    rw [e]
    refine ev_call (av := [_]) rfl rfl rfl rfl ⟨Nat.le_of_ble_eq_true rfl, rfl⟩ ⟨Nat.le_of_ble_eq_true rfl, Nat.le_of_ble_eq_true rfl⟩ (m_bit _) ?_
    rintro _ _ ⟨rfl, rfl⟩
    refine ev_ps 3 rfl (ev_ald rfl rfl hin ?_)
    rw [e]
    refine ev_call (av := [_]) rfl rfl rfl rfl ⟨Nat.le_of_ble_eq_true rfl, rfl⟩ ⟨Nat.le_of_ble_eq_true rfl, Nat.le_of_ble_eq_true rfl⟩ (m_bit _) ?_
    rintro _ _ ⟨rfl, rfl⟩
    exact ev_ps 1 rfl (ev_ret rfl rfl ⟨by rw [rz_rd, if_neg g1], rfl⟩)
/-- all bits of x are bits of y -/
def rz_sb (x y : Int32) : Prop := ∀ i, x.toBitVec.getLsbD i = true → y.toBitVec.getLsbD i = true
theorem rz_sb.rf {x : Int32} : rz_sb x x := fun _ h => h
theorem rz_sb.tr {x y z : Int32} (h : rz_sb x y) (h2 : rz_sb y z) : rz_sb x z := fun i q => h2 i (h i q)
theorem rz_sb.or {x y x' y' : Int32} (h : rz_sb x x') (h2 : rz_sb y y') : rz_sb (x ||| y) (x' ||| y') := fun i q => by
  rw [Int32.toBitVec_or, BitVec.getLsbD_or, Bool.or_eq_true] at q ⊢
  exact q.imp (h i) (h2 i)
theorem rz_sb.and {x x' c : Int32} (h : rz_sb x x') : rz_sb (x &&& c) (x' &&& c) := fun i q => by
  rw [Int32.toBitVec_and, BitVec.getLsbD_and, Bool.and_eq_true] at q ⊢
  exact ⟨h i q.1, q.2⟩
theorem rz_sb.zero {x : Int32} : rz_sb 0 x := fun i q => by
  have : (0 : Int32).toBitVec.getLsbD i = false := by
    show (0#32).getLsbD i = false
    simp
  rw [this] at q; cases q
theorem rz_sb.eq {x y : Int32} (h : rz_sb x y) : x &&& y = x := by
  apply Int32.toBitVec_inj.mp
  apply BitVec.eq_of_getLsbD_eq
  intro i _
  rw [Int32.toBitVec_and, BitVec.getLsbD_and]
  cases hx : x.toBitVec.getLsbD i with
  | false => rfl
  | true => rw [h i hx]; rfl
theorem rz_sb_nat {i j : Nat} (hi : i ≤ 15) (hj : j ≤ 15) (h : rz_sb (Int32.ofNat i) (Int32.ofNat j)) : i ≤ j := by
  have key : ∀ i < 16, ∀ j < 16, Int32.ofNat i &&& Int32.ofNat j = Int32.ofNat i → i ≤ j := by decide +kernel
  exact key i (by omega) j (by omega) h.eq
def rz_s1 (x : Int32) : Prop := ∃ j : Nat, j ≤ 15 ∧ x = Int32.ofNat j
theorem rz_s1.or {x y : Int32} (hx : rz_s1 x) (hy : rz_s1 y) : rz_s1 (x ||| y) := by
  obtain ⟨i, hi, rfl⟩ := hx
  obtain ⟨j, hj, rfl⟩ := hy
  have key : ∀ i < 16, ∀ j < 16, Int32.ofNat i ||| Int32.ofNat j = Int32.ofNat (i ||| j) ∧ i ||| j < 16 := by decide +kernel
  have := key i (by omega) j (by omega)
  exact ⟨i ||| j, by omega, this.1⟩
theorem rz_s1.and {x c : Int32} (hx : rz_s1 x) : rz_s1 (x &&& c) := by
  obtain ⟨i, hi, rfl⟩ := hx
  obtain ⟨k, hk, e⟩ := rz_mask c i (by omega)
  exact ⟨k, by omega, by rw [Int32.and_comm]; exact e⟩
theorem rz_s1.bit {r : Nat} (hr : r ≤ 3) : rz_s1 (rz_bit (Int32.ofNat r)) := by
  have key : ∀ r < 4, rz_bit (Int32.ofNat r) = Int32.ofNat (if r = 0 then 0 else 2 ^ r) := by decide +kernel
  refine ⟨if r = 0 then 0 else 2 ^ r, ?_, key r (by omega)⟩
  have : ∀ r < 4, (if r = 0 then 0 else 2 ^ r) ≤ 15 := by decide
  exact this r (by omega)
theorem rz_s1.rd {o d s t : Int32} (h : rz_LI o d s t) : rz_s1 (rz_rd o d s t) := by
  obtain ⟨o', d', s', t', rfl, rfl, rfl, rfl, b1, b2, b3, b4, b5⟩ := h
  unfold rz_rd
  split
  · split
    · split
      · split
        · exact ⟨0, by omega, rfl⟩
        · exact ⟨14, by omega, rfl⟩
      · exact (rz_s1.bit b2).or (rz_s1.bit b3)
    · exact rz_s1.bit b3
  · rename_i h
    have h5 : o' ≤ 5 := Nat.not_lt.mp fun q => h ((rz_lt_iff (n := 5) (by omega) (by omega)).mpr q)
    exact (rz_s1.bit b3).or (rz_s1.bit (b5 h5))
def rz_b1 (n : Nat) (f : Nat → Int32) (o : Int32) (p : Nat) : Int32 := if o = 14 ∨ o = 15 then 0 else rz_at n f (p + 1)
def rz_b2 (n : Nat) (f : Nat → Int32) (o : Int32) (t : Nat) : Int32 := if ¬ o < 12 ∧ ¬ 14 < o then rz_at n f t else 0
def rz_wr (o d : Int32) : Int32 := if 10 < o then 0 else rz_bit d
def rz_Fp (a : Nat → Nat → Int32) (n : Nat) (f : Nat → Int32) (p : Nat) : Int32 := rz_rd (a 20 p) (a 21 p) (a 22 p) (a 23 p) ||| ((rz_b1 n f (a 20 p) p ||| rz_b2 n f (a 20 p) (a 23 p).toNatClampNeg) &&& (rz_wr (a 20 p) (a 21 p) ^^^ Int32.ofInt (-1)))
theorem rz_at_sb {n k : Nat} {f f' : Nat → Int32} (h : ∀ k, rz_sb (f k) (f' k)) : rz_sb (rz_at n f k) (rz_at n f' k) := by
  unfold rz_at; split
  · exact h k
  · exact rz_sb.rf
theorem rz_Fp_sb {n p : Nat} {f f' : Nat → Int32} (h : ∀ k, rz_sb (f k) (f' k)) : rz_sb (rz_Fp a n f p) (rz_Fp a n f' p) := by
  unfold rz_Fp
  refine rz_sb.rf.or (rz_sb.and (rz_sb.or ?_ ?_))
  · unfold rz_b1; split
    · exact rz_sb.rf
    · exact rz_at_sb h
  · unfold rz_b2; split
    · exact rz_at_sb h
    · exact rz_sb.rf
theorem rz_at_s1 {n k : Nat} {f : Nat → Int32} (h : rz_sm f n) : rz_s1 (rz_at n f k) := by
  unfold rz_at; split
  · rename_i hk; exact h k hk
  · exact ⟨14, by omega, rfl⟩
theorem rz_Fp_s1 {n p : Nat} {f : Nat → Int32} (h : rz_sm f n) (hli : rz_li a p) : rz_s1 (rz_Fp a n f p) := by
  unfold rz_Fp
  refine (rz_s1.rd hli).or (rz_s1.and (rz_s1.or ?_ ?_))
  · unfold rz_b1; split
    · exact ⟨0, by omega, rfl⟩
    · exact rz_at_s1 h
  · unfold rz_b2; split
    · exact rz_at_s1 h
    · exact ⟨0, by omega, rfl⟩
def rz_ms (f : Nat → Int32) : Nat → Nat
  | 0 => 0
  | k + 1 => rz_ms f k + (15 - (f k).toNatClampNeg)
theorem rz_ms_far {f : Nat → Int32} {p : Nat} {x : Int32} : ∀ n, n ≤ p → rz_ms (upd f p x) n = rz_ms f n := by
  intro n
  induction n with
  | zero => intro _; rfl
  | succ n ih =>
    intro h
    rw [rz_ms, rz_ms, ih (by omega)]
    simp only [upd]
    rw [if_neg (by omega)]
theorem rz_ms_up {f : Nat → Int32} {p : Nat} {x : Int32} : ∀ n, p < n → rz_ms (upd f p x) n + (15 - (f p).toNatClampNeg) = rz_ms f n + (15 - x.toNatClampNeg) := by
  intro n
  induction n with
  | zero => intro h; omega
  | succ n ih =>
    intro h
    rw [rz_ms, rz_ms]
    by_cases hp : p = n
    · subst hp
      rw [rz_ms_far p (Nat.le_refl _)]
      simp only [upd, if_true]
      omega
    · have := ih (by omega)
      simp only [upd]
      rw [if_neg (by omega : ¬ n = p)]
      omega
def rz_J (a : Nat → Nat → Int32) (n : Nat) (f : Nat → Int32) : Prop := rz_sm f n ∧ ∀ p, p < n → rz_sb (f p) (rz_Fp a n f p)
theorem rz_J_step {n p : Nat} {f : Nat → Int32} (hJ : rz_J a n f) (hp : p < n) (hli : rz_li a p) : rz_J a n (upd f p (rz_Fp a n f p)) ∧ rz_ms (upd f p (rz_Fp a n f p)) n ≤ rz_ms f n ∧ (¬ rz_Fp a n f p = f p → rz_ms (upd f p (rz_Fp a n f p)) n < rz_ms f n) := by
  have hs := rz_Fp_s1 hJ.1 hli
  have hgrow : ∀ k, rz_sb (f k) (upd f p (rz_Fp a n f p) k) := fun k => by
    by_cases hk : k = p
    · simp only [upd, hk, if_true]; exact hJ.2 p hp
    · simp only [upd, hk, if_false]; exact rz_sb.rf
  obtain ⟨j, hj, ej⟩ := hs
  obtain ⟨i, hi, ei⟩ := hJ.1 p hp
  have hij : i ≤ j := rz_sb_nat hi hj (by rw [← ei, ← ej]; exact hJ.2 p hp)
  have hsum := rz_ms_up (f := f) (p := p) (x := rz_Fp a n f p) n hp
  rw [ej, ei, rz_clamp (by omega), rz_clamp (by omega)] at hsum
  rw [ej]
  refine ⟨⟨fun k hk => ?_, fun q hq => ?_⟩, by omega, fun hne => ?_⟩
  · by_cases hkp : k = p
    · exact ⟨j, hj, by simp [upd, hkp]⟩
    · obtain ⟨c, hc, ec⟩ := hJ.1 k hk
      exact ⟨c, hc, by simp [upd, hkp]; exact ec⟩
  · rw [← ej]
    by_cases hqp : q = p
    · subst hqp
      simp only [upd, if_true]
      exact rz_Fp_sb hgrow
    · have : upd f p (rz_Fp a n f p) q = f q := by simp [upd, hqp]
      rw [this]
      exact (hJ.2 q hq).tr (rz_Fp_sb hgrow)
  · have : i ≠ j := fun q => hne (by rw [ei, q])
    omega
theorem m_findLives (hmi : rz_mi v a) : rz_C xs xl 86 [.ref 25] (rz_w v a g) (fun q w' => q = .inl none ∧ ∃ f, w' = rz_w v (rz_ua a 26 f) g) := by
  obtain ⟨n, hn, hv, hrows⟩ := hmi.1
  -- one place of a sweep
  have place : ∀ (c : Int32) (p : Nat) (f : Nat → Int32) (l3 l4 l5 l6 : Option Value), p < n → (∀ (d : Int32) (l3 l4 l5 l6 : Option Value), (d = 0 ∨ d = 1) → (d = 0 → c = 0 ∧ rz_Fp a n f p = f p) → (d = 1 → ¬ c = 0 ∨ ¬ rz_Fp a n f p = f p) → rz_E xs xl 86 170 [some (.ref 25), some (.int d), some (.int (Int32.ofNat p)), l3, l4, l5, l6] [] (rz_w v (rz_ua a 26 (upd f p (rz_Fp a n f p))) g) 0 0 (fun q w' => q = .inl none ∧ ∃ f, w' = rz_w v (rz_ua a 26 f) g)) → rz_E xs xl 86 42 [some (.ref 25), some (.int c), some (.int (Int32.ofNat p)), l3, l4, l5, l6] [] (rz_w v (rz_ua a 26 f) g) 0 0 (fun q w' => q = .inl none ∧ ∃ f, w' = rz_w v (rz_ua a 26 f) g) := by
    intro c p f l3 l4 l5 l6 hp hK
    have e := rz_clamp (k := p) (by omega)
    have hin : ¬ (Int32.ofNat p < 0 ∨ 25 ≤ (Int32.ofNat p).toNatClampNeg) := rz_in (by omega) (by decide)
    obtain ⟨o', d', s', t', ho, hd, hs, ht, b1, b2, b3, b4, b5⟩ := hrows p hp
    have fin : rz_E xs xl 86 141 [some (.ref 25), some (.int c), some (.int (Int32.ofNat p)), some (.int (a 20 p)), some (.int (rz_b1 n f (a 20 p) p ||| rz_b2 n f (a 20 p) (a 23 p).toNatClampNeg)), some (.int (rz_wr (a 20 p) (a 21 p))), some (.int (rz_Fp a n f p))] [] (rz_w v (rz_ua a 26 f) g) 0 0 (fun q w' => q = .inl none ∧ ∃ f, w' = rz_w v (rz_ua a 26 f) g) := by
      have store : ∀ d : Int32, (d = 0 ∨ d = 1) → (d = 0 → c = 0 ∧ rz_Fp a n f p = f p) → (d = 1 → ¬ c = 0 ∨ ¬ rz_Fp a n f p = f p) → rz_E xs xl 86 161 [some (.ref 25), some (.int c), some (.int (Int32.ofNat p)), some (.int (a 20 p)), some (.int (rz_b1 n f (a 20 p) p ||| rz_b2 n f (a 20 p) (a 23 p).toNatClampNeg)), some (.int (rz_wr (a 20 p) (a 21 p))), some (.int (rz_Fp a n f p))] [.int d] (rz_w v (rz_ua a 26 f) g) 0 0 (fun q w' => q = .inl none ∧ ∃ f, w' = rz_w v (rz_ua a 26 f) g) := by
        intro d hd0 hd1 hd2
        refine ev_ps 5 rfl (ev_ast rfl rfl hin ?_)
        refine ev_w (w2 := rz_w v (rz_ua a 26 (upd f p (rz_Fp a n f p))) g) (by rw [e]; rfl) ?_
        exact hK d _ _ _ _ hd0 hd1 hd2
      refine ev_ps 1 rfl (ev_if (cd := .ne) rfl (fun h => ?_) (fun h => ?_))
      · exact ev_ps 2 rfl (store 1 (Or.inr rfl) (fun q => absurd q (by decide)) (fun _ => Or.inl (rc_ne_t h)))
      · refine ev_ps 4 rfl (ev_ald rfl rfl hin ?_)
        refine ev_ic (cd := .eq) rfl (fun h2 => ?_) (fun h2 => ?_)
        · refine ev_ps 1 rfl (store 0 (Or.inl rfl) (fun _ => ⟨rc_ne_f h, ?_⟩) (fun q => absurd q (by decide)))
          have := rc_eq_t h2
          rw [e] at this
          exact this
        · refine ev_ps 2 rfl (store 1 (Or.inr rfl) (fun q => absurd q (by decide)) (fun _ => Or.inr (fun q => rc_eq_f h2 ?_)))
          rw [e]
          exact q
    have s124 : ∀ x : Int32, x = rz_wr (a 20 p) (a 21 p) → rz_E xs xl 86 124 [some (.ref 25), some (.int c), some (.int (Int32.ofNat p)), some (.int (a 20 p)), some (.int (rz_b1 n f (a 20 p) p ||| rz_b2 n f (a 20 p) (a 23 p).toNatClampNeg)), l5, l6] [.int x] (rz_w v (rz_ua a 26 f) g) 0 0 (fun q w' => q = .inl none ∧ ∃ f, w' = rz_w v (rz_ua a 26 f) g) := by
      intro x hx
      subst hx
      refine ev_ps 3 rfl (ev_call (av := [_, _]) rfl rfl rfl rfl ⟨Nat.le_of_ble_eq_true rfl, rfl⟩ ⟨Nat.le_of_ble_eq_true rfl, Nat.le_of_ble_eq_true rfl⟩ (m_reads (by omega)) ?_)
      rintro _ _ ⟨rfl, rfl⟩
      exact ev_ps 7 rfl fin
    have s102 : ∀ x : Int32, x = rz_b2 n f (a 20 p) (a 23 p).toNatClampNeg → rz_E xs xl 86 102 [some (.ref 25), some (.int c), some (.int (Int32.ofNat p)), some (.int (a 20 p)), some (.int (rz_b1 n f (a 20 p) p)), l5, l6] [.int x, .int (rz_b1 n f (a 20 p) p)] (rz_w v (rz_ua a 26 f) g) 0 0 (fun q w' => q = .inl none ∧ ∃ f, w' = rz_w v (rz_ua a 26 f) g) := by
      intro x hx
      subst hx
      refine ev_ps 4 rfl (ev_ic (cd := .gt) rfl (fun h => ?_) (fun h => ?_))
      · exact ev_ps 1 rfl (s124 0 (by unfold rz_wr; exact (if_pos (rc_gt_t h)).symm))
      · refine ev_ps 3 rfl (ev_ald rfl rfl hin ?_)
        rw [show (rz_ua a 26 f) 21 = a 21 from rfl, e]
        refine ev_call (av := [_]) rfl rfl rfl rfl ⟨Nat.le_of_ble_eq_true rfl, rfl⟩ ⟨Nat.le_of_ble_eq_true rfl, Nat.le_of_ble_eq_true rfl⟩ (m_bit _) ?_
        rintro _ _ ⟨rfl, rfl⟩
        exact ev_ps 1 rfl (s124 _ (by unfold rz_wr; exact (if_neg (rc_gt_f h)).symm))
    have s72 : ∀ (x : Int32) (l4 : Option Value), x = rz_b1 n f (a 20 p) p → rz_E xs xl 86 72 [some (.ref 25), some (.int c), some (.int (Int32.ofNat p)), some (.int (a 20 p)), l4, l5, l6] [.int x] (rz_w v (rz_ua a 26 f) g) 0 0 (fun q w' => q = .inl none ∧ ∃ f, w' = rz_w v (rz_ua a 26 f) g) := by
      intro x l4 hx
      subst hx
      refine ev_ps 4 rfl (ev_ic (cd := .lt) rfl (fun h => ?_) (fun h => ?_))
      · exact ev_ps 1 rfl (s102 0 (by unfold rz_b2; exact (if_neg (fun q => q.1 (rc_lt_t h))).symm))
      · refine ev_ps 2 rfl (ev_ic (cd := .gt) rfl (fun h2 => ?_) (fun h2 => ?_))
        · exact ev_ps 1 rfl (s102 0 (by unfold rz_b2; exact (if_neg (fun q => q.2 (rc_gt_t h2))).symm))
        · refine ev_ps 4 rfl (ev_ald rfl rfl hin ?_)
          rw [show (rz_ua a 26 f) 23 = a 23 from rfl, e, ht]
          refine ev_call (av := [_, _]) rfl rfl rfl rfl ⟨Nat.le_of_ble_eq_true rfl, rfl⟩ ⟨Nat.le_of_ble_eq_true rfl, Nat.le_of_ble_eq_true rfl⟩ (m_livesAt hv hn b4) ?_
          rintro _ _ ⟨rfl, rfl⟩
          exact ev_ps 1 rfl (s102 _ (by unfold rz_b2; rw [ht, rz_clamp (by omega)]; exact (if_pos ⟨rc_lt_f h, rc_gt_f h2⟩).symm))
    refine ev_ps 3 rfl (ev_ald rfl rfl hin ?_)
    rw [show (rz_ua a 26 f) 20 = a 20 from rfl, e]
    refine ev_ps 3 rfl (ev_ic (cd := .eq) rfl (fun h => ?_) (fun h => ?_))
    · exact ev_ps 2 rfl (s72 0 _ (by unfold rz_b1; exact (if_pos (Or.inl (rc_eq_t h))).symm))
    · refine ev_ps 2 rfl (ev_ic (cd := .ne) rfl (fun h2 => ?_) (fun h2 => ?_))
      · refine ev_ps 4 rfl ?_
        refine ev_call (av := [.ref 25, .int (Int32.ofNat (p + 1))]) rfl (by rw [← rz_succ]; rfl) rfl rfl ⟨Nat.le_of_ble_eq_true rfl, rfl⟩ ⟨Nat.le_of_ble_eq_true rfl, Nat.le_of_ble_eq_true rfl⟩ (m_livesAt hv hn (by omega)) ?_
        rintro _ _ ⟨rfl, rfl⟩
        exact s72 _ _ (by unfold rz_b1; exact (if_neg (fun q => q.elim (rc_eq_f h) (rc_ne_t h2))).symm)
      · exact ev_ps 2 rfl (s72 0 _ (by unfold rz_b1; exact (if_pos (Or.inr (rc_ne_f h2))).symm))
  -- a sweep
  have sweep : ∀ (c : Int32) (f : Nat → Int32) (l2 l3 l4 l5 l6 : Option Value), (c = 0 ∨ c = 1) → rz_J a n f → rz_E xs xl 86 25 [some (.ref 25), some (.int c), l2, l3, l4, l5, l6] [] (rz_w v (rz_ua a 26 f) g) 0 0 (fun q w' => q = .inl none ∧ ∃ f, w' = rz_w v (rz_ua a 26 f) g) := by
    intro c f l2 l3 l4 l5 l6 hc hJ
    refine ev_loop (α := Int32 × Option Value × Option Value × Option Value × Option Value × Option Value × (Nat → Int32)) (fun r => 2 * rz_ms r.2.2.2.2.2.2 n + (if r.1 = 1 then 1 else 0)) (fun r => (r.1 = 0 ∨ r.1 = 1) ∧ rz_J a n r.2.2.2.2.2.2) (fun r => [some (.ref 25), some (.int r.1), r.2.1, r.2.2.1, r.2.2.2.1, r.2.2.2.2.1, r.2.2.2.2.2.1]) (fun _ => []) (fun r => rz_w v (rz_ua a 26 r.2.2.2.2.2.2) g) ?_ (c, l2, l3, l4, l5, l6, f) ⟨hc, hJ⟩
    rintro ⟨c, l2, l3, l4, l5, l6, f0⟩ ⟨hc, hJ⟩ ih
    dsimp only at hc hJ ih ⊢
    refine ev_ps 1 rfl (ev_if (cd := .eq) rfl (fun h => ?_) (fun h => ?_))
    · exact ev_ret rfl rfl ⟨rfl, f0, rfl⟩
    · have hc1 : c = 1 := hc.resolve_left (rc_eq_f h)
      rw [if_pos hc1] at ih
      refine ev_ps 7 rfl ?_
      refine ev_l (L2 := [some (.ref 25), some (.int 0), some (.int (Int32.ofNat n - 1)), l3, l4, l5, l6]) (by rw [← hv]; rfl) ?_
      refine ev_loop (α := Nat × Int32 × Option Value × Option Value × Option Value × Option Value × (Nat → Int32)) (fun r => r.1) (fun r => r.1 ≤ n ∧ (r.2.1 = 0 ∨ r.2.1 = 1) ∧ rz_J a n r.2.2.2.2.2.2 ∧ rz_ms r.2.2.2.2.2.2 n ≤ rz_ms f0 n ∧ (r.2.1 = 1 → rz_ms r.2.2.2.2.2.2 n < rz_ms f0 n)) (fun r => [some (.ref 25), some (.int r.2.1), some (.int (Int32.ofNat r.1 - 1)), r.2.2.1, r.2.2.2.1, r.2.2.2.2.1, r.2.2.2.2.2.1]) (fun _ => []) (fun r => rz_w v (rz_ua a 26 r.2.2.2.2.2.2) g) ?_ (n, 0, l3, l4, l5, l6, f0) ⟨Nat.le_refl _, Or.inl rfl, hJ, Nat.le_refl _, fun q => absurd (show (0 : Int32) = 1 from q) (by decide)⟩
      rintro ⟨k, c2, l3, l4, l5, l6, f⟩ ⟨hk, hc2, hJ2, hm1, hm2⟩ ih2
      dsimp only at hk hc2 hJ2 hm1 hm2 ih2 ⊢
      refine ev_ps 1 rfl (ev_if (cd := .lt) rfl (fun h => ?_) (fun h => ?_))
      · have h9 := ih (c2, some (.int (Int32.ofNat k - 1)), l3, l4, l5, l6, f) ⟨hc2, hJ2⟩ (by
          show 2 * rz_ms f n + (if c2 = 1 then 1 else 0) < 2 * rz_ms f0 n + 1
          rcases hc2 with h0 | h1
          · rw [h0, if_neg (by decide)]; omega
          · rw [if_pos h1]; have := hm2 h1; omega)
        exact ev_ps 1 rfl h9
      · have hk0 : 0 < k := by
          rcases Nat.eq_zero_or_pos k with rfl | h0
          · exact absurd (by decide : Int32.ofNat 0 - 1 < 0) (rc_lt_f h)
          · exact h0
        rw [show Int32.ofNat k - 1 = Int32.ofNat (k - 1) from rz_sub (n := 1) hk0]
        refine place c2 (k - 1) f l3 l4 l5 l6 (by omega) (fun d l3 l4 l5 l6 hd hd0 hd1 => ?_)
        obtain ⟨j1, j2, j3⟩ := rz_J_step hJ2 (show k - 1 < n by omega) (hrows (k - 1) (by omega))
        have h9 := ih2 (k - 1, d, l3, l4, l5, l6, upd f (k - 1) (rz_Fp a n f (k - 1))) ⟨by show k - 1 ≤ n; omega, hd, j1, Nat.le_trans j2 hm1, fun q => by
          rcases hd1 q with h1 | h1
          · exact Nat.lt_of_le_of_lt j2 (hm2 (hc2.resolve_left h1))
          · exact Nat.lt_of_lt_of_le (j3 h1) hm1⟩ (by show k - 1 < k; omega)
        dsimp only at h9
        rw [show Int32.ofNat (k - 1) - 1 = Int32.ofNat (k - 1) + Int32.ofInt (-1) from Int32.sub_eq_add_neg _ _] at h9
        exact ev_ps 2 rfl h9
  refine ev_ps 2 rfl (ev_w (w2 := rz_w v (rz_ua a 26 (a 26)) g) rfl ?_)
  refine ev_loop (α := Nat × (Nat → Int32)) (fun r => n - r.1) (fun r => r.1 ≤ n ∧ ∀ j, j < r.1 → r.2 j = 0) (fun r => [some (.ref 25), some (.int (Int32.ofNat r.1)), none, none, none, none, none]) (fun _ => []) (fun r => rz_w v (rz_ua a 26 r.2) g) ?_ (0, a 26) ⟨Nat.zero_le _, fun j hj => absurd hj (by omega)⟩
  rintro ⟨k, f⟩ ⟨hk, hf⟩ ih
  dsimp only at hk hf ih ⊢
  refine ev_ps 3 rfl (ev_ic (cd := .ge) rfl (fun h => ?_) (fun h => ?_))
  · have h' : rz_cmp .ge (Int32.ofNat k) (v 21) = true := h
    rw [hv] at h'
    have hkn : n ≤ k := rn_ge_t (by omega) (by omega) h'
    refine ev_ps 2 rfl (sweep 1 f _ _ _ _ _ (Or.inr rfl) ⟨fun j hj => ⟨0, by omega, hf j (by omega)⟩, fun p hp => ?_⟩)
    rw [hf p (by omega)]
    exact rz_sb.zero
  · have h' : rz_cmp .ge (Int32.ofNat k) (v 21) = false := h
    rw [hv] at h'
    have hk' : k < n := rn_ge_f (by omega) (by omega) h'
    refine ev_ps 4 rfl (ev_ast rfl rfl (rz_in (by omega) (by decide)) ?_)
    have h9 := ih (k + 1, upd f k 0) ⟨by show k + 1 ≤ n; omega, fun j hj => by
      by_cases hjk : j = k
      · simp [upd, hjk]
      · simp [upd, hjk]; exact hf j (by have : j < k + 1 := hj; omega)⟩ (by show n - (k + 1) < n - k; omega)
    dsimp only at h9
    rw [← rz_succ k] at h9
    exact ev_w (w2 := rz_w v (rz_ua a 26 (upd f k 0)) g) (by rw [rz_clamp (by omega)]; rfl) (ev_ps 2 rfl h9)
theorem m_live (hmi : rz_mi v a) (x : Int32) : rz_C xs xl 85 [.ref 25, .int x] (rz_w v a g) (rz_mp v a g rz_pi) := by
  refine ev_ps 5 rfl (ev_call (av := [_, _, _]) rfl rfl rfl rfl ⟨Nat.le_of_ble_eq_true rfl, rfl⟩ ⟨Nat.le_of_ble_eq_true rfl, Nat.le_of_ble_eq_true rfl⟩ (m_in _ _ _) ?_)
  rintro _ _ ⟨⟨u2, h2, rfl⟩, rfl⟩
  refine ev_if (cd := .eq) rfl (fun e2 => ?_) (fun e2 => ?_)
  · refine ev_ps 2 rfl (ev_w (w2 := rz_w (rz_up v 20 1) a g) rfl ?_)
    refine ev_ps 2 rfl (ev_if (cd := .eq) rfl (fun h => absurd (rc_eq_t h) (show ¬ (1 : Int32) = 0 by decide)) (fun h => ?_))
    exact ev_ps 1 rfl (ev_ret rfl rfl ⟨⟨_, rfl⟩, _, _, rfl, rz_mf.rf.up (by omega) _, hmi⟩)
  · obtain ⟨-, y0, y1⟩ := h2.resolve_right (fun q => rc_eq_f e2 q.1)
    obtain ⟨n, hn, hv, hrows⟩ := hmi.1
    have y1' : ¬ v 21 < x := y1
    rw [hv] at y1'
    obtain ⟨k, hk, rfl⟩ := rz_le_nat (by omega) y0 y1'
    refine ev_ps 3 rfl (ev_w (w2 := rz_w (rz_up v 20 0) a g) rfl ?_)
    refine ev_ps 2 rfl (ev_if (cd := .eq) rfl (fun h => ?_) (fun h => absurd rfl (rc_eq_f h)))
    refine ev_ps 1 rfl (ev_call (av := [_]) rfl rfl rfl rfl ⟨Nat.le_of_ble_eq_true rfl, rfl⟩ ⟨Nat.le_of_ble_eq_true rfl, Nat.le_of_ble_eq_true rfl⟩ (m_findLives (v := rz_up v 20 0) hmi) ?_)
    rintro _ _ ⟨rfl, f, rfl⟩
    refine ev_ps 2 rfl (ev_call (av := [_, _]) rfl rfl rfl rfl ⟨Nat.le_of_ble_eq_true rfl, rfl⟩ ⟨Nat.le_of_ble_eq_true rfl, Nat.le_of_ble_eq_true rfl⟩ (m_livesAt (v := rz_up v 20 0) hv hn (by omega)) ?_)
    rintro _ _ ⟨rfl, rfl⟩
    exact ev_ret rfl rfl ⟨⟨_, rfl⟩, _, _, rfl, (rz_mf.rf.up (by omega) _).ua (by omega) _, hmi⟩
end RZM4
/-! the reference: run, and improving -/
section RZM5
variable {xs : Nat → Int32} {xl : Nat} {v : Nat → Int32} {a : Nat → Nat → Int32} {g : Nat → Int64}
theorem m_run (hmi : rz_mi v a) (x : Int32) : rz_C xs xl 80 [.ref 25, .int x] (rz_w v a g) (rz_mp v a g rz_pi) := by
  obtain ⟨n, hn, hv, hrows⟩ := hmi.1
  refine ev_ps 4 rfl (ev_call (av := [_, _, _]) rfl rfl rfl rfl ⟨Nat.le_of_ble_eq_true rfl, rfl⟩ ⟨Nat.le_of_ble_eq_true rfl, Nat.le_of_ble_eq_true rfl⟩ (m_in _ _ _) ?_)
  rintro _ _ ⟨⟨u2, h2, rfl⟩, rfl⟩
  refine ev_if (cd := .eq) rfl (fun e2 => ?_) (fun e2 => ?_)
  · refine ev_ps 2 rfl (ev_w (w2 := rz_w (rz_up v 20 1) a g) rfl ?_)
    refine ev_ps 2 rfl (ev_if (cd := .eq) rfl (fun h => absurd (rc_eq_t h) (show ¬ (1 : Int32) = 0 by decide)) (fun h => ?_))
    exact ev_ps 1 rfl (ev_ret rfl rfl ⟨⟨_, rfl⟩, _, _, rfl, rz_mf.rf.up (by omega) _, hmi⟩)
  · obtain ⟨-, y0, y1⟩ := h2.resolve_right (fun q => rc_eq_f e2 q.1)
    obtain ⟨l, hl, rfl⟩ := rz_le_nat (b := 500) (by decide) y0 y1
    refine ev_ps 3 rfl (ev_w (w2 := rz_w (rz_up v 20 0) a g) rfl ?_)
    refine ev_ps 2 rfl (ev_if (cd := .eq) rfl (fun h => ?_) (fun h => absurd rfl (rc_eq_f h)))
    have fin : ∀ (e : Int32) (j : Int32) (f f2 : Nat → Int32), rz_sm f2 12 → rz_mf v a (rz_up (rz_up (rz_up v 20 0) 22 e) 23 j) (rz_ua (rz_ua a 27 f) 25 f2) ∧ rz_mi (rz_up (rz_up (rz_up v 20 0) 22 e) 23 j) (rz_ua (rz_ua a 27 f) 25 f2) := fun e j f f2 hf2 =>
      ⟨((((rz_mf.rf.up (by omega) _).up (by omega) _).up (by omega) _).ua (by omega) _).ua (by omega) _, hmi.1, hmi.2.1, hmi.2.2.1, hf2⟩
    have loop : ∀ (e : Int32) (t3 : Option Value) (j : Nat) (f f2 : Nat → Int32), rz_sm f2 12 → (e = 0 → j < n) → rz_E xs xl 80 82 [some (.ref 25), some (.int (Int32.ofNat l)), some (.int (Int32.ofNat 0)), t3] [] (rz_w (rz_up (rz_up (rz_up v 20 0) 22 e) 23 (Int32.ofNat j)) (rz_ua (rz_ua a 27 f) 25 f2) g) 0 0 (rz_mp v a g rz_pi) := by
      intro e t3 j f f2 hf2 he
      refine ev_loop (α := Nat × Int32 × Option Value × Nat × (Nat → Int32) × (Nat → Int32)) (fun r => l - r.1) (fun r => r.1 ≤ l ∧ rz_sm r.2.2.2.2.2 12 ∧ (r.2.1 = 0 → r.2.2.2.1 < n)) (fun r => [some (.ref 25), some (.int (Int32.ofNat l)), some (.int (Int32.ofNat r.1)), r.2.2.1]) (fun _ => []) (fun r => rz_w (rz_up (rz_up (rz_up v 20 0) 22 r.2.1) 23 (Int32.ofNat r.2.2.2.1)) (rz_ua (rz_ua a 27 r.2.2.2.2.1) 25 r.2.2.2.2.2) g) ?_ (0, e, t3, j, f, f2) ⟨Nat.zero_le _, hf2, he⟩
      rintro ⟨k, e, t3, j, f, f2⟩ ⟨hk, hf2, he⟩ ih
      dsimp only at hk hf2 he ih ⊢
      obtain ⟨m1, m2⟩ := fin e (Int32.ofNat j) f f2 hf2
      refine ev_ps 2 rfl (ev_if (cd := .ne) rfl (fun h => ?_) (fun h => ?_))
      · exact ev_ps 1 rfl (ev_ret rfl rfl ⟨⟨_, rfl⟩, _, _, rfl, m1, m2⟩)
      · refine ev_ps 2 rfl (ev_ic (cd := .ge) rfl (fun h1 => ?_) (fun h1 => ?_))
        · exact ev_ps 1 rfl (ev_ret rfl rfl ⟨⟨_, rfl⟩, _, _, rfl, m1, m2⟩)
        · have hk' : k < l := rn_ge_f (by omega) (by omega) h1
          have hj : j < n := he (rc_ne_f h)
          refine ev_ps 5 rfl (ev_call (av := [_, _]) rfl rfl rfl rfl ⟨Nat.le_of_ble_eq_true rfl, rfl⟩ ⟨Nat.le_of_ble_eq_true rfl, Nat.le_of_ble_eq_true rfl⟩ (m_execute m2 hv hn hj (hrows j hj)) ?_)
          rintro _ _ ⟨rfl, j2, f3, f4, hj2, hf4, rfl⟩
          refine ev_w (w2 := rz_w (rz_up (rz_up (rz_up v 20 0) 22 e) 23 (Int32.ofNat j2)) (rz_ua (rz_ua a 27 f3) 25 f4) g) rfl ?_
          have next : ∀ e2 : Int32, (e2 = 0 → j2 < n) → rz_E xs xl 80 135 [some (.ref 25), some (.int (Int32.ofNat l)), some (.int (Int32.ofNat k + Int32.ofInt 1)), some (.int (Int32.ofNat j))] [.int e2, .ref 25] (rz_w (rz_up (rz_up (rz_up v 20 0) 22 e) 23 (Int32.ofNat j2)) (rz_ua (rz_ua a 27 f3) 25 f4) g) 0 0 (rz_mp v a g rz_pi) := by
            intro e3 he3
            have h9 := ih (k + 1, e3, some (.int (Int32.ofNat j)), j2, f3, f4) ⟨by show k + 1 ≤ l; omega, hf4, he3⟩ (by show l - (k + 1) < l - k; omega)
            dsimp only at h9
            rw [← rz_succ k] at h9
            exact ev_ps 1 rfl (ev_w (w2 := rz_w (rz_up (rz_up (rz_up v 20 0) 22 e3) 23 (Int32.ofNat j2)) (rz_ua (rz_ua a 27 f3) 25 f4) g) rfl (ev_ps 1 rfl h9))
          refine ev_ps 5 rfl (ev_ald rfl rfl (rz_in (by omega) (by decide)) ?_)
          refine ev_ps 1 rfl (ev_ic (cd := .eq) rfl (fun h5 => ?_) (fun h5 => ?_))
          · exact ev_ps 2 rfl (next 1 (fun q => absurd q (by decide)))
          · refine ev_ps 4 rfl (ev_ic (cd := .lt) rfl (fun h6 => ?_) (fun h6 => ?_))
            · have h6' : rz_cmp .lt (Int32.ofNat j2) (v 21) = true := h6
              rw [hv] at h6'
              exact ev_ps 1 rfl (next 0 (fun _ => rn_lt_t (by omega) (by omega) h6'))
            · exact ev_ps 2 rfl (next 1 (fun q => absurd q (by decide)))
    refine ev_ps 2 rfl (ev_w (w2 := rz_w (rz_up v 20 0) (rz_ua a 25 (a 25)) g) rfl ?_)
    refine ev_loop (α := Nat × (Nat → Int32)) (fun r => 12 - r.1) (fun r => r.1 ≤ 12 ∧ rz_sm r.2 12) (fun r => [some (.ref 25), some (.int (Int32.ofNat l)), some (.int (Int32.ofNat r.1)), none]) (fun _ => []) (fun r => rz_w (rz_up v 20 0) (rz_ua a 25 r.2) g) ?_ (0, a 25) ⟨Nat.zero_le _, hmi.2.2.2⟩
    rintro ⟨k, f2⟩ ⟨hk, hf2⟩ ih
    dsimp only at hk hf2 ih ⊢
    refine ev_ps 2 rfl (ev_ic (cd := .ge) rfl (fun h => ?_) (fun h => ?_))
    · refine ev_ps 3 rfl (ev_w (w2 := rz_w (rz_up (rz_up (rz_up v 20 0) 22 (v 22)) 23 0) (rz_ua (rz_ua a 27 (a 27)) 25 f2) g) rfl ?_)
      have go : ∀ e2 : Int32, (e2 = 0 → 0 < n) → rz_E xs xl 80 77 [some (.ref 25), some (.int (Int32.ofNat l)), some (.int (Int32.ofNat k)), none] [.int e2, .ref 25] (rz_w (rz_up (rz_up (rz_up v 20 0) 22 (v 22)) 23 0) (rz_ua (rz_ua a 27 (a 27)) 25 f2) g) 0 0 (rz_mp v a g rz_pi) := by
        intro e3 he3
        exact ev_ps 1 rfl (ev_w (w2 := rz_w (rz_up (rz_up (rz_up v 20 0) 22 e3) 23 (Int32.ofNat 0)) (rz_ua (rz_ua a 27 (a 27)) 25 f2) g) rfl (ev_ps 2 rfl (loop e3 _ 0 _ f2 hf2 he3)))
      refine ev_ps 5 rfl (ev_ic (cd := .lt) rfl (fun h6 => ?_) (fun h6 => ?_))
      · have h6' : rz_cmp .lt (Int32.ofNat 0) (v 21) = true := h6
        rw [hv] at h6'
        exact ev_ps 1 rfl (go 0 (fun _ => rn_lt_t (by omega) (by omega) h6'))
      · exact ev_ps 2 rfl (go 1 (fun q => absurd q (by decide)))
    · have hk' : k < 12 := rn_ge_f (k := 12) (by omega) (by omega) h
      obtain ⟨y, hy, ey⟩ := hmi.2.2.1 k hk'
      have ei := rz_clamp (k := k) (by omega)
      refine ev_ps 6 rfl (ev_ald rfl rfl (rz_in hk' (by decide)) ?_)
      refine ev_ast rfl rfl (rz_in hk' (by decide)) ?_
      have h9 := ih (k + 1, upd f2 k (Int32.ofNat y)) ⟨by show k + 1 ≤ 12; omega, rz_sm_up hf2 hy⟩ (by show 12 - (k + 1) < 12 - k; omega)
      dsimp only at h9
      rw [← rz_succ k] at h9
      refine ev_w (w2 := rz_w (rz_up v 20 0) (rz_ua a 25 (upd f2 k (Int32.ofNat y))) g) ?_ (ev_ps 2 rfl h9)
      rw [ei, ← ey]; rfl
theorem m_isRow {p n m : Nat} (hv : v 21 = Int32.ofNat m) (hm : m ≤ 24) (hp : p ≤ 24) (hn : n ≤ 3) : rz_C xs xl 99 [.ref 25, .int (Int32.ofNat p), .int (Int32.ofNat n)] (rz_w v a g) (rz_bo (rz_w v a g) (p + n ≤ m ∧ ∀ j, p < j → j < p + n → rz_nt a m j)) := by
  refine ev_ps 5 rfl (ev_ic (cd := .gt) rfl (fun h => ?_) (fun h => ?_))
  · exact ev_ps 1 rfl (ev_ret rfl rfl rz_bo0)
  · rw [rz_add, hv] at h
    have hle : p + n ≤ m := rn_gt_f (by omega) (by omega) h
    refine ev_ps 3 rfl (ev_call (av := [_, _, _]) rfl rfl rfl rfl ⟨Nat.le_of_ble_eq_true rfl, rfl⟩ ⟨Nat.le_of_ble_eq_true rfl, Nat.le_of_ble_eq_true rfl⟩ (m_isPlain (by omega)) ?_)
    rintro _ _ ⟨⟨u, hu, -, rfl⟩, rfl⟩
    refine ev_if (cd := .ne) rfl (fun h1 => ?_) (fun h1 => ?_)
    · refine ev_ps 6 rfl (ev_l (L2 := [some (.ref 25), some (.int (Int32.ofNat p)), some (.int (Int32.ofNat n)), some (.int 1), some (.int (Int32.ofNat (p + 1)))]) (by rw [← rz_succ]; rfl) ?_)
      by_cases hn0 : n = 0
      · subst hn0
        refine ev_ps 4 rfl (ev_ic (cd := .ge) rfl (fun h => ?_) (fun h => ?_))
        · exact ev_ps 1 rfl (ev_ret rfl rfl (rz_bo1 ⟨hle, fun j h1 h2 => absurd h2 (by omega)⟩))
        · rw [rz_add] at h
          have := rn_ge_f (by omega) (by omega) h
          omega
      refine ev_loop (α := Nat × Int32) (fun r => p + n - r.1) (fun r => r.1 ≤ p + n ∧ (r.2 = 0 ∨ r.2 = 1) ∧ (r.2 = 1 → ∀ j, p < j → j < r.1 → rz_nt a m j)) (fun r => [some (.ref 25), some (.int (Int32.ofNat p)), some (.int (Int32.ofNat n)), some (.int r.2), some (.int (Int32.ofNat r.1))]) (fun _ => []) (fun _ => rz_w v a g) ?_ (p + 1, 1) ⟨by show p + 1 ≤ p + n; omega, Or.inr rfl, fun _ j h1 h2 => absurd h2 (by show ¬ j < p + 1; omega)⟩
      rintro ⟨k, b⟩ ⟨hk, hb, hbp⟩ ih
      dsimp only at hk hb hbp ih ⊢
      have next : k < p + n → ∀ c : Int32, (c = 0 ∨ c = 1) → (c = 1 → ∀ j, p < j → j < k + 1 → rz_nt a m j) → rz_E xs xl 99 54 [some (.ref 25), some (.int (Int32.ofNat p)), some (.int (Int32.ofNat n)), some (.int b), some (.int (Int32.ofNat k))] [.int c] (rz_w v a g) 0 0 (rz_bo (rz_w v a g) (p + n ≤ m ∧ ∀ j, p < j → j < p + n → rz_nt a m j)) := fun hk' c hc hcp => by
        have h9 := ih (k + 1, c) ⟨by show k + 1 ≤ p + n; omega, hc, hcp⟩ (by show p + n - (k + 1) < p + n - k; omega)
        dsimp only at h9
        rw [← rz_succ k] at h9
        exact ev_ps 3 rfl h9
      refine ev_ps 4 rfl (ev_ic (cd := .ge) rfl (fun h => ?_) (fun h => ?_))
      · rw [rz_add] at h
        have hkn : p + n ≤ k := rn_ge_t (by omega) (by omega) h
        have : k = p + n := by omega
        subst this
        exact ev_ps 1 rfl (ev_ret rfl (show (if b = 0 ∨ b = 1 then some (some (Value.int b)) else none) = _ from if_pos hb) ⟨⟨b, hb, fun q => ⟨hle, hbp q⟩, rfl⟩, rfl⟩)
      · rw [rz_add] at h
        have hk' : k < p + n := rn_ge_f (by omega) (by omega) h
        refine ev_ps 1 rfl (ev_if (cd := .eq) rfl (fun h => ?_) (fun h => ?_))
        · exact ev_ps 1 rfl (next hk' 0 (Or.inl rfl) (fun q => absurd q (by decide)))
        · have hb1 : b = 1 := hb.resolve_left (rc_eq_f h)
          refine ev_ps 2 rfl (ev_call (av := [_, _]) rfl rfl rfl rfl ⟨Nat.le_of_ble_eq_true rfl, rfl⟩ ⟨Nat.le_of_ble_eq_true rfl, Nat.le_of_ble_eq_true rfl⟩ (m_isBegin hv hm (by omega)) ?_)
          rintro _ _ ⟨⟨u3, hu3, hP3, rfl⟩, rfl⟩
          refine ev_if (cd := .ne) rfl (fun h => ?_) (fun h => ?_)
          · exact ev_ps 1 rfl (next hk' 0 (Or.inl rfl) (fun q => absurd q (by decide)))
          · refine ev_ps 2 rfl (next hk' 1 (Or.inr rfl) (fun _ j h1 h2 => ?_))
            by_cases hjk : j = k
            · rw [hjk]; exact (hP3 (rc_ne_f h)).2
            · exact hbp hb1 j h1 (by omega)
    · exact ev_ps 1 rfl (ev_ret rfl rfl rz_bo0)
theorem m_isCandidate {p n : Nat} (x : Int32) (hp : p + n ≤ 25) : rz_C xs xl 101 [.ref 25, .int x, .int (Int32.ofNat p), .int (Int32.ofNat n)] (rz_w v a g) (rz_bo (rz_w v a g) True) := by
  have main : ∀ b : Int32, (b = 0 ∨ b = 1) → rz_E xs xl 101 20 [some (.ref 25), some (.int x), some (.int (Int32.ofNat p)), some (.int (Int32.ofNat n)), none, none] [.int b] (rz_w v a g) 0 0 (rz_bo (rz_w v a g) True) := by
    intro b hb
    refine ev_ps 3 rfl ?_
    refine ev_loop (α := Nat × Int32) (fun r => p + n - r.1) (fun r => r.1 ≤ p + n ∧ (r.2 = 0 ∨ r.2 = 1)) (fun r => [some (.ref 25), some (.int x), some (.int (Int32.ofNat p)), some (.int (Int32.ofNat n)), some (.int r.2), some (.int (Int32.ofNat r.1))]) (fun _ => []) (fun _ => rz_w v a g) ?_ (p, b) ⟨by show p ≤ p + n; omega, hb⟩
    rintro ⟨k, b⟩ ⟨hk, hb⟩ ih
    dsimp only at hk hb ih ⊢
    have next : k < p + n → ∀ c : Int32, (c = 0 ∨ c = 1) → rz_E xs xl 101 66 [some (.ref 25), some (.int x), some (.int (Int32.ofNat p)), some (.int (Int32.ofNat n)), some (.int b), some (.int (Int32.ofNat k))] [.int c] (rz_w v a g) 0 0 (rz_bo (rz_w v a g) True) := fun hk' c hc => by
      have h9 := ih (k + 1, c) ⟨by show k + 1 ≤ p + n; omega, hc⟩ (by show p + n - (k + 1) < p + n - k; omega)
      dsimp only at h9
      rw [← rz_succ k] at h9
      exact ev_ps 3 rfl h9
    refine ev_ps 4 rfl (ev_ic (cd := .ge) rfl (fun h => ?_) (fun h => ?_))
    · exact ev_ps 1 rfl (ev_ret rfl (show (if b = 0 ∨ b = 1 then some (some (Value.int b)) else none) = _ from if_pos hb) ⟨⟨b, hb, fun _ => trivial, rfl⟩, rfl⟩)
    · rw [rz_add] at h
      have hk' : k < p + n := rn_ge_f (by omega) (by omega) h
      refine ev_ps 1 rfl (ev_if (cd := .ne) rfl (fun h => ?_) (fun h => ?_))
      · exact ev_ps 2 rfl (next hk' 1 (Or.inr rfl))
      · refine ev_ps 3 rfl (ev_ald rfl rfl (rz_in (by omega) (by decide)) ?_)
        refine ev_ps 1 rfl (ev_ic (cd := .lt) rfl (fun h => ?_) (fun h => ?_))
        · exact ev_ps 1 rfl (next hk' 0 (Or.inl rfl))
        · refine ev_ps 3 rfl (ev_ald rfl rfl (rz_in (by omega) (by decide)) ?_)
          refine ev_ps 1 rfl (ev_ic (cd := .ne) rfl (fun h => ?_) (fun h => ?_))
          · exact ev_ps 1 rfl (next hk' 0 (Or.inl rfl))
          · exact ev_ps 2 rfl (next hk' 1 (Or.inr rfl))
  refine ev_ps 1 rfl (ev_if (cd := .eq) rfl (fun h => ?_) (fun h => ?_))
  · exact ev_ps 2 rfl (main 1 (Or.inr rfl))
  · refine ev_ps 2 rfl (ev_ic (cd := .eq) rfl (fun h => ?_) (fun h => ?_))
    · exact ev_ps 2 rfl (main 1 (Or.inr rfl))
    · refine ev_ps 2 rfl (ev_ic (cd := .ne) rfl (fun h => ?_) (fun h => ?_))
      · exact ev_ps 1 rfl (main 0 (Or.inl rfl))
      · exact ev_ps 2 rfl (main 1 (Or.inr rfl))
/-- but for the tried row and the two scratch arrays nothing has moved -/
def rz_ca (a a' : Nat → Nat → Int32) : Prop := (∀ i, i < 20 → a' i = a i) ∧ (∀ i, 20 ≤ i → i < 24 → ∀ k, k < 24 → a' i k = a i k) ∧ a' 24 = a 24 ∧ a' 25 = a 25 ∧ rz_li a' 24
theorem rz_ca.li {a' : Nat → Nat → Int32} (h : rz_ca a a') {k : Nat} (hk : k < 24) (hl : rz_li a k) : rz_li a' k := by
  unfold rz_li at hl ⊢
  rw [h.2.1 20 (by omega) (by omega) k hk, h.2.1 21 (by omega) (by omega) k hk, h.2.1 22 (by omega) (by omega) k hk, h.2.1 23 (by omega) (by omega) k hk]
  exact hl
theorem rz_ca.put {a' : Nat → Nat → Int32} (h : rz_ca a a') {o d s t : Int32} (hLI : rz_LI o d s t) : rz_ca a (rz_pt a' 24 o d s t) := by
  refine ⟨fun i hi => ?_, fun i hi hi2 k hk => ?_, h.2.2.1, h.2.2.2.1, rz_pt_li (fun _ => hLI) (fun q => absurd rfl q)⟩
  · have : rz_pt a' 24 o d s t i = a' i := by
      simp only [rz_pt, rz_ua]
      rw [if_neg (by omega), if_neg (by omega), if_neg (by omega), if_neg (by omega)]
    rw [this]; exact h.1 i hi
  · rw [← h.2.1 i hi hi2 k hk]
    have : i = 20 ∨ i = 21 ∨ i = 22 ∨ i = 23 := by omega
    rcases this with rfl | rfl | rfl | rfl
    · show upd (a' 20) 24 o k = _; simp only [upd]; rw [if_neg (by omega)]
    · show upd (a' 21) 24 d k = _; simp only [upd]; rw [if_neg (by omega)]
    · show upd (a' 22) 24 s k = _; simp only [upd]; rw [if_neg (by omega)]
    · show upd (a' 23) 24 t k = _; simp only [upd]; rw [if_neg (by omega)]
theorem rz_ca.ua {a' : Nat → Nat → Int32} (h : rz_ca a a') {i : Nat} (hi : 26 ≤ i) (f : Nat → Int32) : rz_ca a (rz_ua a' i f) := by
  have e : ∀ j, j < 26 → rz_ua a' i f j = a' j := fun j hj => if_neg (by omega)
  refine ⟨fun j hj => by rw [e j (by omega)]; exact h.1 j hj, fun j hj hj2 k hk => by rw [e j (by omega)]; exact h.2.1 j hj hj2 k hk, by rw [e 24 (by omega)]; exact h.2.2.1, by rw [e 25 (by omega)]; exact h.2.2.2.1, ?_⟩
  show rz_LI (rz_ua a' i f 20 24) (rz_ua a' i f 21 24) (rz_ua a' i f 22 24) (rz_ua a' i f 23 24)
  rw [e 20 (by omega), e 21 (by omega), e 22 (by omega), e 23 (by omega)]
  exact h.2.2.2.2
theorem rz_ca.mi {a' : Nat → Nat → Int32} (h : rz_ca a a') (hmi : rz_mi v a) : rz_mi v a' := by
  obtain ⟨⟨n, hn, hv, hrows⟩, h1, h2, h3⟩ := hmi
  refine ⟨⟨n, hn, hv, fun k hk => h.li (by omega) (hrows k hk)⟩, h.2.2.2.2, ?_, ?_⟩
  · rw [h.2.2.1]; exact h2
  · rw [h.2.2.2.1]; exact h3
set_option maxRecDepth 100000 in
theorem rz_kd : ∀ k, k < 1920 → Int32.ofNat k / 192 = Int32.ofNat (k / 192) ∧ 1 + (Int32.ofNat k / 64 - Int32.ofNat k / 64 / 3 * 3) = Int32.ofNat (1 + k / 64 % 3) ∧ Int32.ofNat k / 16 - Int32.ofNat k / 16 / 4 * 4 = Int32.ofNat (k / 16 % 4) ∧ Int32.ofNat k - Int32.ofNat k / 16 * 16 = Int32.ofNat (k % 16) := by decide +kernel
theorem m_isFound {p n m : Nat} (z : Int32) (hmi : rz_mi v a) (hv : v 21 = Int32.ofNat m) (hm : m ≤ 24) (hpn : p + n ≤ m) : rz_C xs xl 100 [.ref 25, .int (Int32.ofNat p), .int (Int32.ofNat n), .int z] (rz_w v a g) (fun q w' => ∃ (u y : Int32) (a' : Nat → Nat → Int32), (u = 0 ∨ u = 1) ∧ q = .inl (some (.int u)) ∧ rz_ca a a' ∧ (u = 1 → a' 20 24 < 12) ∧ w' = rz_w (rz_up v 26 y) a' g) := by
  obtain ⟨m', hm', hv', hrows⟩ := hmi.1
  have em : m' = m := (rz_eq_iff (by omega) (by omega)).mp (hv'.symm.trans hv)
  subst em
  refine ev_ps 2 rfl ?_
  refine ev_loop (α := Nat × Option Value × Option Value × Option Value × Option Value × Int32 × (Nat → Nat → Int32)) (fun r => 1920 - r.1) (fun r => r.1 ≤ 1920 ∧ rz_ca a r.2.2.2.2.2.2) (fun r => [some (.ref 25), some (.int (Int32.ofNat p)), some (.int (Int32.ofNat n)), some (.int z), some (.int (Int32.ofNat r.1)), r.2.1, r.2.2.1, r.2.2.2.1, r.2.2.2.2.1]) (fun _ => []) (fun r => rz_w (rz_up v 26 r.2.2.2.2.2.1) r.2.2.2.2.2.2 g) ?_ (0, none, none, none, none, v 26, a) ⟨Nat.zero_le _, fun _ _ => rfl, fun _ _ _ _ _ => rfl, rfl, rfl, hmi.2.1⟩
  rintro ⟨k, t5, t6, t7, t8, y, a1⟩ ⟨hk, hca⟩ ih
  dsimp only at hk hca ih ⊢
  refine ev_ps 2 rfl (ev_ic (cd := .ge) rfl (fun h => ?_) (fun h => ?_))
  · exact ev_ps 1 rfl (ev_ret rfl rfl ⟨0, y, a1, Or.inl rfl, rfl, hca, fun q => absurd q (by decide), rfl⟩)
  · have hk' : k < 1920 := rn_ge_f (k := 1920) (by omega) (by omega) h
    obtain ⟨k1, k2, k3, k4⟩ := rz_kd k hk'
    have next : ∀ (t5 t6 t7 t8 : Option Value) (y : Int32) (a1 : Nat → Nat → Int32), rz_ca a a1 → rz_E xs xl 100 112 [some (.ref 25), some (.int (Int32.ofNat p)), some (.int (Int32.ofNat n)), some (.int z), some (.int (Int32.ofNat k)), t5, t6, t7, t8] [] (rz_w (rz_up v 26 y) a1 g) 0 0 (fun q w' => ∃ (u y : Int32) (a' : Nat → Nat → Int32), (u = 0 ∨ u = 1) ∧ q = .inl (some (.int u)) ∧ rz_ca a a' ∧ (u = 1 → a' 20 24 < 12) ∧ w' = rz_w (rz_up v 26 y) a' g) := by
      intro t5 t6 t7 t8 y a1 hca
      have h9 := ih (k + 1, t5, t6, t7, t8, y, a1) ⟨by show k + 1 ≤ 1920; omega, hca⟩ (by show 1920 - (k + 1) < 1920 - k; omega)
      dsimp only at h9
      rw [← rz_succ k] at h9
      exact ev_ps 2 rfl h9
    refine ev_ps 22 rfl ?_
    refine ev_l (L2 := [some (.ref 25), some (.int (Int32.ofNat p)), some (.int (Int32.ofNat n)), some (.int z), some (.int (Int32.ofNat k)), some (.int (Int32.ofNat (k / 192))), some (.int (Int32.ofNat (1 + k / 64 % 3))), some (.int (Int32.ofNat (k / 16 % 4))), some (.int (Int32.ofNat (k % 16)))]) (by rw [← k1, ← k2, ← k3, ← k4]; rfl) ?_
    have try1 : (k / 192 ≤ 5 → k % 16 ≤ 3) → rz_E xs xl 100 73 [some (.ref 25), some (.int (Int32.ofNat p)), some (.int (Int32.ofNat n)), some (.int z), some (.int (Int32.ofNat k)), some (.int (Int32.ofNat (k / 192))), some (.int (Int32.ofNat (1 + k / 64 % 3))), some (.int (Int32.ofNat (k / 16 % 4))), some (.int (Int32.ofNat (k % 16)))] [] (rz_w (rz_up v 26 y) a1 g) 0 0 (fun q w' => ∃ (u y : Int32) (a' : Nat → Nat → Int32), (u = 0 ∨ u = 1) ∧ q = .inl (some (.int u)) ∧ rz_ca a a' ∧ (u = 1 → a' 20 24 < 12) ∧ w' = rz_w (rz_up v 26 y) a' g) := by
      intro hle
      have hLI : rz_LI (Int32.ofNat (k / 192)) (Int32.ofNat (1 + k / 64 % 3)) (Int32.ofNat (k / 16 % 4)) (Int32.ofNat (k % 16)) := ⟨_, _, _, _, rfl, rfl, rfl, rfl, by omega, by omega, by omega, by omega, hle⟩
      refine ev_ps 6 rfl ?_
      refine ev_call (av := [.ref 25, .int (Int32.ofNat 24), _, _, _, _]) rfl rfl rfl rfl ⟨Nat.le_of_ble_eq_true rfl, rfl⟩ ⟨Nat.le_of_ble_eq_true rfl, Nat.le_of_ble_eq_true rfl⟩ (m_put (k := 24) (by omega) _ _ _ _) ?_
      rintro _ _ ⟨rfl, rfl⟩
      have hca2 := hca.put hLI
      have hq : ∀ j, 24 ≤ j → j < 24 + 1 → rz_li (rz_pt a1 24 (Int32.ofNat (k / 192)) (Int32.ofNat (1 + k / 64 % 3)) (Int32.ofNat (k / 16 % 4)) (Int32.ofNat (k % 16))) j := fun j h1 h2 => by
        have h3 : j = 24 := by omega
        rw [h3]
        exact hca2.2.2.2.2
      refine ev_ps 6 rfl (ev_w (w2 := rz_w (rz_up v 26 (y + Int32.ofInt 1)) (rz_pt a1 24 (Int32.ofNat (k / 192)) (Int32.ofNat (1 + k / 64 % 3)) (Int32.ofNat (k / 16 % 4)) (Int32.ofNat (k % 16))) g) rfl ?_)
      refine ev_ps 6 rfl ?_
      refine ev_call (av := [.ref 25, .int (Int32.ofNat p), .int (Int32.ofNat n), .int (Int32.ofNat 24), .int (Int32.ofNat 1), .int z]) rfl rfl rfl rfl ⟨Nat.le_of_ble_eq_true rfl, rfl⟩ ⟨Nat.le_of_ble_eq_true rfl, Nat.le_of_ble_eq_true rfl⟩ (m_agree z (by omega) (by omega) (fun j h1 h2 => hca2.li (by omega) (hrows j (by omega))) hq) ?_
      rintro _ _ ⟨⟨u, hu, rfl⟩, f1, f2, rfl⟩
      have hca3 := (hca2.ua (i := 27) (by omega) f1).ua (i := 28) (by omega) f2
      refine ev_if (cd := .eq) rfl (fun h => next _ _ _ _ _ _ hca3) (fun h => ?_)
      refine ev_ps 1 rfl (ev_ret rfl rfl ⟨1, _, _, Or.inr rfl, rfl, hca3, fun _ => ?_, rfl⟩)
      show upd (a1 20) 24 (Int32.ofNat (k / 192)) 24 < 12
      simp only [upd, if_true]
      exact (rz_lt_iff (k := 12) (by omega) (by omega)).mpr (by omega)
    refine ev_ps 2 rfl (ev_ic (cd := .ge) rfl (fun h => ?_) (fun h => ?_))
    · have h6 : 6 ≤ k / 192 := rn_ge_t (k := 6) (by omega) (by omega) h
      refine ev_ps 4 rfl (ev_call (av := [_, _, _, _]) rfl rfl rfl rfl ⟨Nat.le_of_ble_eq_true rfl, rfl⟩ ⟨Nat.le_of_ble_eq_true rfl, Nat.le_of_ble_eq_true rfl⟩ (m_isCandidate _ (by omega)) ?_)
      rintro _ _ ⟨⟨u, hu, -, rfl⟩, rfl⟩
      exact ev_if (cd := .eq) rfl (fun h => next _ _ _ _ _ _ hca) (fun h => try1 (fun q => absurd q (by omega)))
    · refine ev_ps 2 rfl (ev_ic (cd := .ge) rfl (fun h => next _ _ _ _ _ _ hca) (fun h => ?_))
      have h4 : k % 16 < 4 := rn_ge_f (k := 4) (by omega) (by omega) h
      exact ev_ps 1 rfl (try1 (fun _ => by omega))
end RZM5
/-! the reference: cutting and improving -/
section RZM6
variable {xs : Nat → Int32} {xl : Nat} {v : Nat → Int32} {a : Nat → Nat → Int32} {g : Nat → Int64}
/-- a legal row that, if it is a jump, does not go to a place strictly between p and p + n -/
def rz_RP (p n : Nat) (o d s t : Int32) : Prop := rz_LI o d s t ∧ ∀ j, p < j → j < p + n → ¬ (¬ o < 12 ∧ ¬ 14 < o ∧ t = Int32.ofNat j)
def rz_rp (p n : Nat) (a : Nat → Nat → Int32) (k : Nat) : Prop := rz_RP p n (a 20 k) (a 21 k) (a 22 k) (a 23 k)
theorem rz_pt_rp {p n k j : Nat} {o d s t : Int32} (h : j = k → rz_RP p n o d s t) (h2 : j ≠ k → rz_rp p n a j) : rz_rp p n (rz_pt a k o d s t) j := by
  show rz_RP p n (upd (a 20) k o j) (upd (a 21) k d j) (upd (a 22) k s j) (upd (a 23) k t j)
  by_cases hj : j = k
  · simp only [upd, hj, if_true]
    exact h hj
  · simp only [upd, hj, if_false]
    exact h2 hj
theorem m_cut {p n m b : Nat} (hmi : rz_mi v a) (hv : v 21 = Int32.ofNat m) (hm : m ≤ 24) (hpn : p + n ≤ m) (hb : b ≤ 1) (hbn : b ≤ n) (hnt : ∀ j, p < j → j < p + n → rz_nt a m j) (hb1 : b = 1 → a 20 24 < 12) : rz_C xs xl 102 [.ref 25, .int (Int32.ofNat p), .int (Int32.ofNat n), .int (Int32.ofNat b)] (rz_w v a g) (fun q w' => q = .inl none ∧ ∃ v' a', w' = rz_w v' a' g ∧ rz_mf v a v' a' ∧ rz_mi v' a' ∧ v' 21 = Int32.ofNat (m - (n - b))) := by
  obtain ⟨m', hm', hv', hrows⟩ := hmi.1
  have em : m = m' := (rz_eq_iff (by omega) (by omega)).mp (hv.symm.trans hv')
  subst em
  refine ev_ps 4 rfl (ev_l (L2 := [some (.ref 25), some (.int (Int32.ofNat p)), some (.int (Int32.ofNat n)), some (.int (Int32.ofNat b)), some (.int (Int32.ofNat (n - b))), none]) (by rw [← rz_sub hbn]; rfl) ?_)
  -- the second loop, and the end
  have two : ∀ a1 : Nat → Nat → Int32, rz_mf v a v a1 → (∀ k, k < m → rz_rp p n a1 k) → rz_li a1 24 → rz_sm (a1 24) 12 → rz_sm (a1 25) 12 → ∀ l5, rz_E xs xl 102 112 [some (.ref 25), some (.int (Int32.ofNat p)), some (.int (Int32.ofNat n)), some (.int (Int32.ofNat b)), some (.int (Int32.ofNat (n - b))), l5] [] (rz_w v a1 g) 0 0 (fun q w' => q = .inl none ∧ ∃ v' a', w' = rz_w v' a' g ∧ rz_mf v a v' a' ∧ rz_mi v' a' ∧ v' 21 = Int32.ofNat (m - (n - b))) := by
    intro a1 hf1 hr1 h24 hs1 hs2 l5
    refine ev_ps 6 rfl (ev_w (w2 := rz_w (rz_up v 21 (Int32.ofNat (m - (n - b)))) a1 g) (by rw [← rz_sub (k := m) (n := n - b) (by omega), ← hv]; rfl) ?_)
    refine ev_ps 2 rfl ?_
    refine ev_loop (α := Nat × (Nat → Nat → Int32)) (fun r => m - (n - b) - r.1) (fun r => r.1 ≤ m - (n - b) ∧ rz_mf v a v r.2 ∧ (∀ k, k < r.1 → rz_li r.2 k) ∧ (∀ k, r.1 ≤ k → k < m → rz_rp p n r.2 k) ∧ rz_li r.2 24 ∧ rz_sm (r.2 24) 12 ∧ rz_sm (r.2 25) 12) (fun r => [some (.ref 25), some (.int (Int32.ofNat p)), some (.int (Int32.ofNat n)), some (.int (Int32.ofNat b)), some (.int (Int32.ofNat (n - b))), some (.int (Int32.ofNat r.1))]) (fun _ => []) (fun r => rz_w (rz_up v 21 (Int32.ofNat (m - (n - b)))) r.2 g) ?_ (0, a1) ⟨Nat.zero_le _, hf1, fun k hk => absurd hk (Nat.not_lt_zero _), fun k _ hk => hr1 k hk, h24, hs1, hs2⟩
    rintro ⟨k, a2⟩ ⟨hk, hf, hl, hr, h24, hs1, hs2⟩ ih
    dsimp only at hk hf hl hr h24 hs1 hs2 ih ⊢
    refine ev_ps 3 rfl (ev_ic (cd := .ge) rfl (fun h => ?_) (fun h => ?_))
    · have hkk : m - (n - b) ≤ k := rn_ge_t (by omega) (by omega) h
      refine ev_ps 6 rfl (ev_w (w2 := rz_w (rz_up (rz_up v 21 (Int32.ofNat (m - (n - b)))) 24 (v 24 + 1)) a2 g) rfl ?_)
      have fin : ∀ y : Int32, rz_E xs xl 102 212 [some (.ref 25), some (.int (Int32.ofNat p)), some (.int (Int32.ofNat n)), some (.int (Int32.ofNat b)), some (.int (Int32.ofNat (n - b))), some (.int (Int32.ofNat k))] [.int y, .int (v 25), .ref 25] (rz_w (rz_up (rz_up v 21 (Int32.ofNat (m - (n - b)))) 24 (v 24 + 1)) a2 g) 0 0 (fun q w' => q = .inl none ∧ ∃ v' a', w' = rz_w v' a' g ∧ rz_mf v a v' a' ∧ rz_mi v' a' ∧ v' 21 = Int32.ofNat (m - (n - b))) := fun y => by
        refine ev_ps 2 rfl (ev_w (w2 := rz_w (rz_up (rz_up (rz_up v 21 (Int32.ofNat (m - (n - b)))) 24 (v 24 + 1)) 25 (v 25 + y)) a2 g) rfl ?_)
        exact ev_ret rfl rfl ⟨rfl, _, _, rfl, ((hf.up (by omega) _).up (by omega) _).up (by omega) _, ⟨⟨m - (n - b), by omega, rfl, fun j hj => hl j (by omega)⟩, h24, hs1, hs2⟩, rfl⟩
      refine ev_ps 4 rfl (ev_if (cd := .ne) rfl (fun h => ?_) (fun h => ?_))
      · exact ev_ps 1 rfl (fin 0)
      · exact ev_ps 2 rfl (fin 1)
    · have hkk : k < m - (n - b) := rn_ge_f (by omega) (by omega) h
      have hin : ¬ (Int32.ofNat k < 0 ∨ 25 ≤ (Int32.ofNat k).toNatClampNeg) := rz_in (by omega) (by decide)
      have e := rz_clamp (k := k) (by omega)
      obtain ⟨hli, hj0⟩ := hr k (by omega) (by omega)
      have next : ∀ a3 : Nat → Nat → Int32, rz_mf v a v a3 → (∀ j, j < k + 1 → rz_li a3 j) → (∀ j, k + 1 ≤ j → j < m → rz_rp p n a3 j) → rz_li a3 24 → rz_sm (a3 24) 12 → rz_sm (a3 25) 12 → rz_E xs xl 102 182 [some (.ref 25), some (.int (Int32.ofNat p)), some (.int (Int32.ofNat n)), some (.int (Int32.ofNat b)), some (.int (Int32.ofNat (n - b))), some (.int (Int32.ofNat k))] [] (rz_w (rz_up v 21 (Int32.ofNat (m - (n - b)))) a3 g) 0 0 (fun q w' => q = .inl none ∧ ∃ v' a', w' = rz_w v' a' g ∧ rz_mf v a v' a' ∧ rz_mi v' a' ∧ v' 21 = Int32.ofNat (m - (n - b))) := by
        intro a3 hf hl hr h24 hs1 hs2
        have h9 := ih (k + 1, a3) ⟨by show k + 1 ≤ _; omega, hf, hl, hr, h24, hs1, hs2⟩ (by show m - (n - b) - (k + 1) < m - (n - b) - k; omega)
        dsimp only at h9
        rw [← rz_succ k] at h9
        exact ev_ps 2 rfl h9
      have same := next a2 hf (fun j hj => by
        by_cases hjk : j = k
        · rw [hjk]; exact hli
        · exact hl j (by omega)) (fun j h1 h2 => hr j (by omega) h2) h24 hs1 hs2
      refine ev_ps 3 rfl (ev_ald rfl rfl hin ?_)
      refine ev_ps 1 rfl (ev_ic (cd := .lt) rfl (fun h1 => same) (fun h1 => ?_))
      refine ev_ps 3 rfl (ev_ald rfl rfl hin ?_)
      refine ev_ps 1 rfl (ev_ic (cd := .gt) rfl (fun h2 => same) (fun h2 => ?_))
      refine ev_ps 3 rfl (ev_ald rfl rfl hin ?_)
      refine ev_ps 1 rfl (ev_ic (cd := .le) rfl (fun h3 => same) (fun h3 => ?_))
      rw [e] at h1 h2 h3
      have g1 : ¬ a2 20 k < 12 := rc_lt_f h1
      have g2 : ¬ 14 < a2 20 k := rc_gt_f h2
      obtain ⟨o', d', s', t', eo, ed, es, et, b1, b2, b3, b4, b5⟩ := hli
      have g3 : p < t' := by
        have : rz_cmp .le (a2 23 k) (Int32.ofNat p) = false := h3
        rw [et] at this
        exact rn_le_f (by omega) (by omega) this
      have g4 : p + n ≤ t' := by
        rcases Nat.lt_or_ge t' (p + n) with q | q
        · exact absurd ⟨g1, g2, et⟩ (hj0 t' g3 q)
        · exact q
      have g5 : ¬ o' ≤ 5 := fun q => g1 (by rw [eo]; exact (rz_lt_iff (k := 12) (by omega) (by omega)).mpr (by omega))
      refine ev_ps 4 rfl (ev_ald rfl rfl hin ?_)
      refine ev_ps 2 rfl (ev_ast rfl rfl hin ?_)
      refine ev_w (w2 := rz_w (rz_up v 21 (Int32.ofNat (m - (n - b)))) (rz_ua a2 23 (upd (a2 23) k (Int32.ofNat (t' - (n - b))))) g) (by rw [e, ← rz_sub (k := t') (n := n - b) (by omega), ← et]; rfl) ?_
      refine next _ (hf.ua (by omega) _) (fun j hj => ?_) (fun j h1 h2 => ?_) ?_ hs1 hs2
      · show rz_LI (a2 20 j) (a2 21 j) (a2 22 j) (upd (a2 23) k (Int32.ofNat (t' - (n - b))) j)
        by_cases hjk : j = k
        · subst hjk
          exact ⟨o', d', s', t' - (n - b), eo, ed, es, by simp [upd], b1, b2, b3, by omega, fun q => absurd q g5⟩
        · simp only [upd, hjk, if_false]
          exact hl j (by omega)
      · show rz_RP p n (a2 20 j) (a2 21 j) (a2 22 j) (upd (a2 23) k (Int32.ofNat (t' - (n - b))) j)
        simp only [upd]
        rw [if_neg (by omega)]
        exact hr j (by omega) h2
      · show rz_LI (a2 20 24) (a2 21 24) (a2 22 24) (upd (a2 23) k (Int32.ofNat (t' - (n - b))) 24)
        simp only [upd]
        rw [if_neg (by omega)]
        exact h24
  -- the first loop
  have one : ∀ a1 : Nat → Nat → Int32, rz_mf v a v a1 → (∀ k, k < m → rz_rp p n a1 k) → rz_li a1 24 → rz_sm (a1 24) 12 → rz_sm (a1 25) 12 → rz_E xs xl 102 43 [some (.ref 25), some (.int (Int32.ofNat p)), some (.int (Int32.ofNat n)), some (.int (Int32.ofNat b)), some (.int (Int32.ofNat (n - b))), none] [] (rz_w v a1 g) 0 0 (fun q w' => q = .inl none ∧ ∃ v' a', w' = rz_w v' a' g ∧ rz_mf v a v' a' ∧ rz_mi v' a' ∧ v' 21 = Int32.ofNat (m - (n - b))) := by
    intro a1 hf1 hr1 h24 hs1 hs2
    refine ev_ps 4 rfl (ev_l (L2 := [some (.ref 25), some (.int (Int32.ofNat p)), some (.int (Int32.ofNat n)), some (.int (Int32.ofNat b)), some (.int (Int32.ofNat (n - b))), some (.int (Int32.ofNat (p + b)))]) (by rw [← rz_add]; rfl) ?_)
    refine ev_loop (α := Nat × (Nat → Nat → Int32)) (fun r => m - r.1) (fun r => r.1 + (n - b) ≤ m ∧ rz_mf v a v r.2 ∧ (∀ k, k < m → rz_rp p n r.2 k) ∧ rz_li r.2 24 ∧ rz_sm (r.2 24) 12 ∧ rz_sm (r.2 25) 12) (fun r => [some (.ref 25), some (.int (Int32.ofNat p)), some (.int (Int32.ofNat n)), some (.int (Int32.ofNat b)), some (.int (Int32.ofNat (n - b))), some (.int (Int32.ofNat r.1))]) (fun _ => []) (fun r => rz_w v r.2 g) ?_ (p + b, a1) ⟨by show p + b + (n - b) ≤ m; omega, hf1, hr1, h24, hs1, hs2⟩
    rintro ⟨k, a2⟩ ⟨hk, hf, hr, h24, hs1, hs2⟩ ih
    dsimp only at hk hf hr h24 hs1 hs2 ih ⊢
    refine ev_ps 5 rfl (ev_ic (cd := .ge) rfl (fun h => two a2 hf hr h24 hs1 hs2 _) (fun h => ?_))
    rw [rz_add, hv] at h
    have hkk : k + (n - b) < m := rn_ge_f (by omega) (by omega) h
    have hin : ¬ (Int32.ofNat k + Int32.ofNat (n - b) < 0 ∨ 25 ≤ (Int32.ofNat k + Int32.ofNat (n - b)).toNatClampNeg) := by rw [rz_add]; exact rz_in (by omega) (by decide)
    refine ev_ps 7 rfl (ev_ald rfl rfl hin ?_)
    refine ev_ps 5 rfl (ev_ald rfl rfl hin ?_)
    refine ev_ps 5 rfl (ev_ald rfl rfl hin ?_)
    refine ev_ps 5 rfl (ev_ald rfl rfl hin ?_)
    refine ev_call (av := [.ref 25, .int (Int32.ofNat k), .int (a2 20 (k + (n - b))), .int (a2 21 (k + (n - b))), .int (a2 22 (k + (n - b))), .int (a2 23 (k + (n - b)))]) rfl (by rw [rz_add, rz_clamp (by omega)]; rfl) rfl rfl ⟨Nat.le_of_ble_eq_true rfl, rfl⟩ ⟨Nat.le_of_ble_eq_true rfl, Nat.le_of_ble_eq_true rfl⟩ (m_put (k := k) (by omega) _ _ _ _) ?_
    rintro _ _ ⟨rfl, rfl⟩
    have h9 := ih (k + 1, rz_pt a2 k (a2 20 (k + (n - b))) (a2 21 (k + (n - b))) (a2 22 (k + (n - b))) (a2 23 (k + (n - b)))) ⟨by show k + 1 + (n - b) ≤ m; omega, rz_pt_mf hf, fun j hj => rz_pt_rp (fun _ => hr _ hkk) (fun _ => hr j hj), rz_pt_li (fun q => absurd q (by omega)) (fun _ => h24), hs1, hs2⟩ (by show m - (k + 1) < m - k; omega)
    dsimp only at h9
    rw [← rz_succ k] at h9
    exact ev_ps 2 rfl h9
  have hr0 : ∀ k, k < m → rz_rp p n a k := fun k hk => ⟨hrows k hk, fun j h1 h2 => hnt j h1 h2 k hk⟩
  refine ev_ps 2 rfl (ev_ic (cd := .ne) rfl (fun h => one a rz_mf.rf hr0 hmi.2.1 hmi.2.2.1 hmi.2.2.2) (fun h => ?_))
  have eb : b = 1 := (rz_eq_iff (k := 1) (by omega) (by omega)).mp (rc_ne_f h)
  have hin : ¬ ((24 : Int32) < 0 ∨ 25 ≤ (24 : Int32).toNatClampNeg) := by decide
  refine ev_ps 5 rfl (ev_ald rfl rfl hin ?_)
  refine ev_ps 3 rfl (ev_ald rfl rfl hin ?_)
  refine ev_ps 3 rfl (ev_ald rfl rfl hin ?_)
  refine ev_ps 3 rfl (ev_ald rfl rfl hin ?_)
  refine ev_call (av := [.ref 25, .int (Int32.ofNat p), .int (a 20 24), .int (a 21 24), .int (a 22 24), .int (a 23 24)]) rfl rfl rfl rfl ⟨Nat.le_of_ble_eq_true rfl, rfl⟩ ⟨Nat.le_of_ble_eq_true rfl, Nat.le_of_ble_eq_true rfl⟩ (m_put (k := p) (by omega) _ _ _ _) ?_
  rintro _ _ ⟨rfl, rfl⟩
  exact one _ (rz_pt_mf rz_mf.rf) (fun j hj => rz_pt_rp (fun _ => ⟨hmi.2.1, fun _ _ _ q => q.1 (hb1 eb)⟩) (fun _ => hr0 j hj)) (rz_pt_li (fun q => absurd q (by omega)) (fun _ => hmi.2.1)) hmi.2.2.1 hmi.2.2.2
theorem rz_ca.nt {a' : Nat → Nat → Int32} {m j : Nat} (h : rz_ca a a') (hm : m ≤ 24) (hn : rz_nt a m j) : rz_nt a' m j := fun k hk q => by
  rw [h.2.1 20 (by omega) (by omega) k (by omega), h.2.1 23 (by omega) (by omega) k (by omega)] at q
  exact hn k hk q
theorem m_improved {p m : Nat} (hmi : rz_mi v a) (hv : v 21 = Int32.ofNat m) (hm : m ≤ 24) (hp : p < m) : rz_C xs xl 98 [.ref 25, .int (Int32.ofNat p)] (rz_w v a g) (fun q w' => ∃ (u : Int32) (v' : Nat → Int32) (a' : Nat → Nat → Int32) (m' : Nat), q = .inl (some (.int u)) ∧ w' = rz_w v' a' g ∧ rz_mf v a v' a' ∧ rz_mi v' a' ∧ v' 21 = Int32.ofNat m' ∧ m' ≤ 24 ∧ ((u = -1 ∧ m' = m) ∨ ∃ b : Nat, b ≤ 1 ∧ u = Int32.ofNat b ∧ m' + 1 ≤ m + b)) := by
  refine ev_ps 1 rfl (ev_call (av := [_]) rfl rfl rfl rfl ⟨Nat.le_of_ble_eq_true rfl, rfl⟩ ⟨Nat.le_of_ble_eq_true rfl, Nat.le_of_ble_eq_true rfl⟩ (m_findLives hmi) ?_)
  rintro _ _ ⟨rfl, f0, rfl⟩
  refine ev_ps 2 rfl ?_
  refine ev_loop (α := Nat × Option Value × Option Value × (Nat → Int32) × (Nat → Nat → Int32)) (fun r => r.1) (fun r => r.1 ≤ 3 ∧ rz_mf v a r.2.2.2.1 r.2.2.2.2 ∧ rz_mi r.2.2.2.1 r.2.2.2.2 ∧ r.2.2.2.1 21 = Int32.ofNat m) (fun r => [some (.ref 25), some (.int (Int32.ofNat p)), some (.int (Int32.ofNat r.1)), r.2.1, r.2.2.1]) (fun _ => []) (fun r => rz_w r.2.2.2.1 r.2.2.2.2 g) ?_ (3, none, none, v, rz_ua a 26 f0) ⟨Nat.le_refl _, rz_mf.rf.ua (by omega) _, hmi, hv⟩
  rintro ⟨n, l3, l4, v1, a1⟩ ⟨hn, hf, hmi1, hv1⟩ ih
  dsimp only at hn hf hmi1 hv1 ih ⊢
  refine ev_ps 1 rfl (ev_if (cd := .le) rfl (fun h => ?_) (fun h => ?_))
  · exact ev_ps 1 rfl (ev_ret rfl rfl ⟨-1, _, _, m, rfl, rfl, hf, hmi1, hv1, hm, Or.inl ⟨rfl, rfl⟩⟩)
  · have hn1 : 0 < n := rn_le_f (k := 0) (by omega) (by omega) h
    have next : ∀ (l3 l4 : Option Value) (v2 : Nat → Int32) (a2 : Nat → Nat → Int32), rz_mf v a v2 a2 → rz_mi v2 a2 → v2 21 = Int32.ofNat m → rz_E xs xl 98 91 [some (.ref 25), some (.int (Int32.ofNat p)), some (.int (Int32.ofNat n)), l3, l4] [] (rz_w v2 a2 g) 0 0 (fun q w' => ∃ (u : Int32) (v' : Nat → Int32) (a' : Nat → Nat → Int32) (m' : Nat), q = .inl (some (.int u)) ∧ w' = rz_w v' a' g ∧ rz_mf v a v' a' ∧ rz_mi v' a' ∧ v' 21 = Int32.ofNat m' ∧ m' ≤ 24 ∧ ((u = -1 ∧ m' = m) ∨ ∃ b : Nat, b ≤ 1 ∧ u = Int32.ofNat b ∧ m' + 1 ≤ m + b)) := by
      intro l3 l4 v2 a2 hf2 hmi2 hv2
      have h9 := ih (n - 1, l3, l4, v2, a2) ⟨by show n - 1 ≤ 3; omega, hf2, hmi2, hv2⟩ (by show n - 1 < n; omega)
      dsimp only at h9
      rw [← rz_sub (k := n) (n := 1) (by omega), show Int32.ofNat n - Int32.ofNat 1 = Int32.ofNat n + Int32.ofInt (-1) from Int32.sub_eq_add_neg _ _] at h9
      exact ev_ps 2 rfl h9
    refine ev_ps 3 rfl (ev_call (av := [_, _, _]) rfl rfl rfl rfl ⟨Nat.le_of_ble_eq_true rfl, rfl⟩ ⟨Nat.le_of_ble_eq_true rfl, Nat.le_of_ble_eq_true rfl⟩ (m_isRow hv1 hm (by omega) hn) ?_)
    rintro _ _ ⟨⟨u, hu, hP, rfl⟩, rfl⟩
    refine ev_if (cd := .eq) rfl (fun h1 => next _ _ _ _ hf hmi1 hv1) (fun h1 => ?_)
    obtain ⟨hpn, hnt⟩ := hP (hu.resolve_left (rc_eq_f h1))
    refine ev_ps 4 rfl ?_
    refine ev_call (av := [.ref 25, .int (Int32.ofNat (p + n))]) rfl (by rw [← rz_add]; rfl) rfl rfl ⟨Nat.le_of_ble_eq_true rfl, rfl⟩ ⟨Nat.le_of_ble_eq_true rfl, Nat.le_of_ble_eq_true rfl⟩ (m_livesAt hv1 hm (by omega)) ?_
    rintro _ _ ⟨rfl, rfl⟩
    refine ev_ps 7 rfl (ev_w (w2 := rz_w (rz_up v1 26 (v1 26 + 1)) a1 g) rfl ?_)
    have hrows : ∀ k, k < m → rz_li a1 k := by
      obtain ⟨m', hm', hv', hr⟩ := hmi1.1
      have em : m' = m := (rz_eq_iff (by omega) (by omega)).mp (hv'.symm.trans hv1)
      subst em
      exact hr
    -- the end of a turn
    have fin : ∀ (b : Nat) (l3 l4 : Option Value) (v2 : Nat → Int32) (a2 : Nat → Nat → Int32), b ≤ 1 → b ≤ n → rz_mf v a v2 a2 → rz_mi v2 a2 → v2 21 = Int32.ofNat m → (∀ j, p < j → j < p + n → rz_nt a2 m j) → (b = 1 → a2 20 24 < 12) → rz_E xs xl 98 73 [some (.ref 25), some (.int (Int32.ofNat p)), some (.int (Int32.ofNat n)), l3, l4] [.int (Int32.ofNat b)] (rz_w v2 a2 g) 0 0 (fun q w' => ∃ (u : Int32) (v' : Nat → Int32) (a' : Nat → Nat → Int32) (m' : Nat), q = .inl (some (.int u)) ∧ w' = rz_w v' a' g ∧ rz_mf v a v' a' ∧ rz_mi v' a' ∧ v' 21 = Int32.ofNat m' ∧ m' ≤ 24 ∧ ((u = -1 ∧ m' = m) ∨ ∃ b : Nat, b ≤ 1 ∧ u = Int32.ofNat b ∧ m' + 1 ≤ m + b)) := by
      intro b l3 l4 v2 a2 hb hbn hf2 hmi2 hv2 hnt2 hb1
      refine ev_ps 2 rfl (ev_if (cd := .lt) rfl (fun h2 => ?_) (fun h2 => ?_))
      · exact absurd (rn_lt_t (k := 0) (by omega) (by omega) h2) (by omega)
      · refine ev_ps 4 rfl (ev_call (av := [_, _, _, _]) rfl rfl rfl rfl ⟨Nat.le_of_ble_eq_true rfl, rfl⟩ ⟨Nat.le_of_ble_eq_true rfl, Nat.le_of_ble_eq_true rfl⟩ (m_cut hmi2 hv2 hm hpn hb hbn hnt2 hb1) ?_)
        rintro _ _ ⟨rfl, v3, a3, rfl, hf3, hmi3, hv3⟩
        exact ev_ps 1 rfl (ev_ret rfl rfl ⟨_, _, _, m - (n - b), rfl, rfl, hf2.tr hf3, hmi3, hv3, by omega, Or.inr ⟨b, hb, rfl, by omega⟩⟩)
    have fin1 : ∀ (l3 l4 : Option Value) (v2 : Nat → Int32) (a2 : Nat → Nat → Int32), rz_mf v a v2 a2 → rz_mi v2 a2 → v2 21 = Int32.ofNat m → rz_E xs xl 98 72 [some (.ref 25), some (.int (Int32.ofNat p)), some (.int (Int32.ofNat n)), l3, l4] [] (rz_w v2 a2 g) 0 0 (fun q w' => ∃ (u : Int32) (v' : Nat → Int32) (a' : Nat → Nat → Int32) (m' : Nat), q = .inl (some (.int u)) ∧ w' = rz_w v' a' g ∧ rz_mf v a v' a' ∧ rz_mi v' a' ∧ v' 21 = Int32.ofNat m' ∧ m' ≤ 24 ∧ ((u = -1 ∧ m' = m) ∨ ∃ b : Nat, b ≤ 1 ∧ u = Int32.ofNat b ∧ m' + 1 ≤ m + b)) := by
      intro l3 l4 v2 a2 hf2 hmi2 hv2
      refine ev_ps 3 rfl (ev_if (cd := .lt) rfl (fun h2 => next _ _ _ _ hf2 hmi2 hv2) (fun h2 => ?_))
      exact absurd (show (-1 : Int32) < 0 by decide) (rc_lt_f h2)
    refine ev_ps 6 rfl ?_
    refine ev_call (av := [.ref 25, .int (Int32.ofNat p), .int (Int32.ofNat n), .int (Int32.ofNat p), .int (Int32.ofNat 0), _]) rfl rfl rfl rfl ⟨Nat.le_of_ble_eq_true rfl, rfl⟩ ⟨Nat.le_of_ble_eq_true rfl, Nat.le_of_ble_eq_true rfl⟩ (m_agree _ (by omega) (by omega) (fun k h1 h2 => hrows k (by omega)) (fun k h1 h2 => absurd h2 (by omega))) ?_
    rintro _ _ ⟨⟨u2, hu2, rfl⟩, f1, f2, rfl⟩
    have hf2 : rz_mf v a (rz_up v1 26 (v1 26 + 1)) (rz_ua (rz_ua a1 27 f1) 28 f2) := ((hf.up (by omega) _).ua (by omega) _).ua (by omega) _
    refine ev_if (cd := .eq) rfl (fun h3 => ?_) (fun h3 => ?_)
    · refine ev_ps 2 rfl (ev_ic (cd := .le) rfl (fun h4 => fin1 _ _ _ _ hf2 hmi1 hv1) (fun h4 => ?_))
      refine ev_ps 4 rfl (ev_call (av := [_, _, _, _]) rfl rfl rfl rfl ⟨Nat.le_of_ble_eq_true rfl, rfl⟩ ⟨Nat.le_of_ble_eq_true rfl, Nat.le_of_ble_eq_true rfl⟩ (m_isFound _ hmi1 hv1 hm hpn) ?_)
      rintro _ _ ⟨u3, y, a3, hu3, rfl, hca, hc24, rfl⟩
      have hf3 : rz_mf v a (rz_up (rz_up v1 26 (v1 26 + 1)) 26 y) a3 := ⟨(hf2.up (by omega) _).1, fun k hk => (hca.1 k hk).trans (hf2.2 k hk)⟩
      have hmi3 : rz_mi (rz_up (rz_up v1 26 (v1 26 + 1)) 26 y) a3 := hca.mi (v := rz_up (rz_up v1 26 (v1 26 + 1)) 26 y) hmi1
      refine ev_if (cd := .eq) rfl (fun h5 => fin1 _ _ _ _ hf3 hmi3 hv1) (fun h5 => ?_)
      exact ev_ps 2 rfl (fin 1 _ _ _ _ (by omega) (by omega) hf3 hmi3 hv1 (fun j h1 h2 => hca.nt hm (hnt j h1 h2)) (fun _ => hc24 (hu3.resolve_left (rc_eq_f h5))))
    · exact ev_ps 2 rfl (fin 0 _ _ _ _ (by omega) (by omega) hf2 hmi1 hv1 hnt (fun q => absurd q (by decide)))
theorem m_improve (hmi : rz_mi v a) : rz_C xs xl 97 [.ref 25] (rz_w v a g) (rz_mp v a g rz_pi) := by
  obtain ⟨n, hn, hv, hrows⟩ := hmi.1
  refine ev_ps 3 rfl (ev_w (w2 := rz_w (rz_up v 20 0) a g) rfl ?_)
  refine ev_ps 5 rfl ?_
  refine ev_loop (α := Nat × Nat × Option Value × (Nat → Int32) × (Nat → Nat → Int32)) (fun r => r.2.1 - r.1) (fun r => r.1 ≤ 24 ∧ r.2.1 ≤ 24 ∧ rz_mf v a r.2.2.2.1 r.2.2.2.2 ∧ rz_mi r.2.2.2.1 r.2.2.2.2 ∧ r.2.2.2.1 21 = Int32.ofNat r.2.1) (fun r => [some (.ref 25), some (.int (v 21)), some (.int (Int32.ofNat r.1)), r.2.2.1]) (fun _ => []) (fun r => rz_w r.2.2.2.1 r.2.2.2.2 g) ?_ (0, n, none, rz_up v 20 0, a) ⟨Nat.zero_le _, hn, rz_mf.rf.up (by omega) _, hmi, hv⟩
  rintro ⟨p, m, l3, v1, a1⟩ ⟨hp, hm, hf, hmi1, hv1⟩ ih
  dsimp only at hp hm hf hmi1 hv1 ih ⊢
  refine ev_ps 3 rfl (ev_ic (cd := .ge) rfl (fun h => ?_) (fun h => ?_))
  · exact ev_ps 4 rfl (ev_ret rfl rfl ⟨⟨_, rfl⟩, _, _, rfl, hf, hmi1⟩)
  · rw [hv1] at h
    have hpm : p < m := rn_ge_f (by omega) (by omega) h
    refine ev_ps 2 rfl (ev_call (av := [_, _]) rfl rfl rfl rfl ⟨Nat.le_of_ble_eq_true rfl, rfl⟩ ⟨Nat.le_of_ble_eq_true rfl, Nat.le_of_ble_eq_true rfl⟩ (m_improved hmi1 hv1 hm hpm) ?_)
    rintro _ _ ⟨u, v2, a2, m2, rfl, rfl, hf2, hmi2, hv2, hm2, hor⟩
    have next : ∀ (p2 : Nat) (l3 : Option Value), p2 ≤ 24 → m2 - p2 < m - p → rz_E xs xl 97 39 [some (.ref 25), some (.int (v 21)), some (.int (Int32.ofNat p)), l3] [.int (Int32.ofNat p2)] (rz_w v2 a2 g) 0 0 (rz_mp v a g rz_pi) := by
      intro p2 l3 hp2 hlt
      have h9 := ih (p2, m2, l3, v2, a2) ⟨hp2, hm2, hf.tr hf2, hmi2, hv2⟩ hlt
      exact ev_ps 2 rfl h9
    rcases hor with ⟨rfl, rfl⟩ | ⟨b, hb, rfl, hmb⟩
    · refine ev_ps 2 rfl (ev_if (cd := .ge) rfl (fun h2 => absurd (rc_ge_t h2) (by decide)) (fun h2 => ?_))
      have h9 := next (p + 1) (some (.int (-1))) (by omega) (by omega)
      rw [← rz_succ p] at h9
      exact ev_ps 4 rfl h9
    · refine ev_ps 2 rfl (ev_if (cd := .ge) rfl (fun h2 => ?_) (fun h2 => ?_))
      · have h9 := next (p + b) (some (.int (Int32.ofNat b))) (by omega) (by omega)
        rw [← rz_add p b] at h9
        exact ev_ps 3 rfl h9
      · exact absurd (rn_ge_f (k := 0) (by omega) (by omega) h2) (by omega)
end RZM6
/-! the pure picture of a program: quadruples (operation, d, s, t); what a row does; which registers live -/
abbrev rz_Q : Type := Nat × Nat × Nat × Nat
def rz_lg (q : rz_Q) : Prop := q.1 ≤ 15 ∧ q.2.1 ≤ 3 ∧ q.2.2.1 ≤ 3 ∧ q.2.2.2 ≤ 24 ∧ (q.1 ≤ 5 → q.2.2.2 ≤ 3)
def rz_pk (q : rz_Q) : Int32 := Int32.ofNat q.1 <<< 9 ||| Int32.ofNat q.2.1 <<< 7 ||| Int32.ofNat q.2.2.1 <<< 5 ||| Int32.ofNat q.2.2.2
theorem rz_or_shr (A B c : Int32) : (A ||| B) >>> c = (A >>> c) ||| (B >>> c) := by
  apply Int32.toBitVec_inj.mp
  rw [Int32.toBitVec_shiftRight, Int32.toBitVec_or, Int32.toBitVec_or, Int32.toBitVec_shiftRight, Int32.toBitVec_shiftRight]
  simp only [BitVec.sshiftRight', BitVec.sshiftRight_or_distrib]
theorem rz_or_and (A B c : Int32) : (A ||| B) &&& c = (A &&& c) ||| (B &&& c) := by
  apply Int32.toBitVec_inj.mp
  rw [Int32.toBitVec_and, Int32.toBitVec_or, Int32.toBitVec_or, Int32.toBitVec_and, Int32.toBitVec_and]
  apply BitVec.eq_of_getLsbD_eq
  intro i _
  simp only [BitVec.getLsbD_and, BitVec.getLsbD_or]
  cases A.toBitVec.getLsbD i <;> cases B.toBitVec.getLsbD i <;> cases c.toBitVec.getLsbD i <;> rfl
theorem rz_pk1 : ∀ o, o < 16 → (Int32.ofNat o <<< 9) >>> (9 &&& 31) = Int32.ofNat o ∧ (Int32.ofNat o <<< 9) >>> (7 &&& 31) &&& 3 = 0 ∧ (Int32.ofNat o <<< 9) >>> (5 &&& 31) &&& 3 = 0 ∧ (Int32.ofNat o <<< 9) &&& 31 = 0 ∧ (Int32.ofNat o <<< 9) &&& (-32 : Int32) = Int32.ofNat o <<< 9 := by decide +kernel
theorem rz_pk2 : ∀ o, o < 4 → (Int32.ofNat o <<< 7) >>> (9 &&& 31) = 0 ∧ (Int32.ofNat o <<< 7) >>> (7 &&& 31) &&& 3 = Int32.ofNat o ∧ (Int32.ofNat o <<< 7) >>> (5 &&& 31) &&& 3 = 0 ∧ (Int32.ofNat o <<< 7) &&& 31 = 0 ∧ (Int32.ofNat o <<< 7) &&& (-32 : Int32) = Int32.ofNat o <<< 7 := by decide +kernel
theorem rz_pk3 : ∀ o, o < 4 → (Int32.ofNat o <<< 5) >>> (9 &&& 31) = 0 ∧ (Int32.ofNat o <<< 5) >>> (7 &&& 31) &&& 3 = 0 ∧ (Int32.ofNat o <<< 5) >>> (5 &&& 31) &&& 3 = Int32.ofNat o ∧ (Int32.ofNat o <<< 5) &&& 31 = 0 ∧ (Int32.ofNat o <<< 5) &&& (-32 : Int32) = Int32.ofNat o <<< 5 := by decide +kernel
theorem rz_pk4 : ∀ o, o < 25 → Int32.ofNat o >>> (9 &&& 31) = 0 ∧ Int32.ofNat o >>> (7 &&& 31) &&& 3 = 0 ∧ Int32.ofNat o >>> (5 &&& 31) &&& 3 = 0 ∧ Int32.ofNat o &&& 31 = Int32.ofNat o ∧ Int32.ofNat o &&& (-32 : Int32) = 0 := by decide +kernel
theorem rz_pk_all {q : rz_Q} (h : rz_lg q) : rz_pk q >>> (9 &&& 31) = Int32.ofNat q.1 ∧ rz_pk q >>> (7 &&& 31) &&& 3 = Int32.ofNat q.2.1 ∧ rz_pk q >>> (5 &&& 31) &&& 3 = Int32.ofNat q.2.2.1 ∧ rz_pk q &&& 31 = Int32.ofNat q.2.2.2 ∧ rz_pk q &&& (-32 : Int32) = Int32.ofNat q.1 <<< 9 ||| Int32.ofNat q.2.1 <<< 7 ||| Int32.ofNat q.2.2.1 <<< 5 := by
  obtain ⟨o, d, s, t⟩ := q
  obtain ⟨h1, h2, h3, h4, -⟩ := h
  dsimp only at h1 h2 h3 h4
  obtain ⟨a1, a2, a3, a4, a5⟩ := rz_pk1 o (by omega)
  obtain ⟨b1, b2, b3, b4, b5⟩ := rz_pk2 d (by omega)
  obtain ⟨c1, c2, c3, c4, c5⟩ := rz_pk3 s (by omega)
  obtain ⟨d1, d2, d3, d4, d5⟩ := rz_pk4 t (by omega)
  have z1 : ∀ x : Int32, x ||| 0 = x := fun x => Int32.or_zero
  have z2 : ∀ x : Int32, 0 ||| x = x := fun x => Int32.zero_or
  show (Int32.ofNat o <<< 9 ||| Int32.ofNat d <<< 7 ||| Int32.ofNat s <<< 5 ||| Int32.ofNat t) >>> (9 &&& 31) = Int32.ofNat o ∧ (Int32.ofNat o <<< 9 ||| Int32.ofNat d <<< 7 ||| Int32.ofNat s <<< 5 ||| Int32.ofNat t) >>> (7 &&& 31) &&& 3 = Int32.ofNat d ∧ (Int32.ofNat o <<< 9 ||| Int32.ofNat d <<< 7 ||| Int32.ofNat s <<< 5 ||| Int32.ofNat t) >>> (5 &&& 31) &&& 3 = Int32.ofNat s ∧ (Int32.ofNat o <<< 9 ||| Int32.ofNat d <<< 7 ||| Int32.ofNat s <<< 5 ||| Int32.ofNat t) &&& 31 = Int32.ofNat t ∧ (Int32.ofNat o <<< 9 ||| Int32.ofNat d <<< 7 ||| Int32.ofNat s <<< 5 ||| Int32.ofNat t) &&& (-32 : Int32) = Int32.ofNat o <<< 9 ||| Int32.ofNat d <<< 7 ||| Int32.ofNat s <<< 5
  refine ⟨?_, ?_, ?_, ?_, ?_⟩
  · rw [rz_or_shr, rz_or_shr, rz_or_shr, a1, b1, c1, d1, z1, z1, z1]
  · rw [rz_or_shr, rz_or_shr, rz_or_shr, rz_or_and, rz_or_and, rz_or_and, a2, b2, c2, d2, z2, z1, z1]
  · rw [rz_or_shr, rz_or_shr, rz_or_shr, rz_or_and, rz_or_and, rz_or_and, a3, b3, c3, d3, z1, z2, z2]
  · rw [rz_or_and, rz_or_and, rz_or_and, a4, b4, c4, d4, z1, z1, z2]
  · rw [rz_or_and, rz_or_and, rz_or_and, a5, b5, c5, d5, z1]
theorem rz_pk_o {q : rz_Q} (h : rz_lg q) : rz_pk q >>> (9 &&& 31) = Int32.ofNat q.1 := (rz_pk_all h).1
theorem rz_pk_d {q : rz_Q} (h : rz_lg q) : rz_pk q >>> (7 &&& 31) &&& 3 = Int32.ofNat q.2.1 := (rz_pk_all h).2.1
theorem rz_pk_s {q : rz_Q} (h : rz_lg q) : rz_pk q >>> (5 &&& 31) &&& 3 = Int32.ofNat q.2.2.1 := (rz_pk_all h).2.2.1
theorem rz_pk_t {q : rz_Q} (h : rz_lg q) : rz_pk q &&& 31 = Int32.ofNat q.2.2.2 := (rz_pk_all h).2.2.2.1
theorem rz_pk_w {q : rz_Q} (h : rz_lg q) (t2 : Nat) : (rz_pk q &&& (-32 : Int32)) ||| Int32.ofNat t2 = rz_pk (q.1, q.2.1, q.2.2.1, t2) := by rw [(rz_pk_all h).2.2.2.2]; rfl
/-! bits of packed registers -/
def rz_vl (r k : Int32) : Int32 := (r >>> (k * 4 &&& 31)) &&& 15
def rz_wi (r n x : Int32) : Int32 := if n = 0 then r else (r &&& ((15 <<< (n * 4 &&& 31)) ^^^ Int32.ofInt (-1))) ||| ((x &&& 15) <<< (n * 4 &&& 31))
def rz_b (x : Int32) (i : Nat) : Bool := x.toBitVec.getLsbD i
theorem rz_b_ext {x y : Int32} (h : ∀ i, i < 32 → rz_b x i = rz_b y i) : x = y := by
  apply Int32.toBitVec_inj.mp
  exact BitVec.eq_of_getLsbD_eq h
theorem rz_b_and (x y : Int32) (i : Nat) : rz_b (x &&& y) i = (rz_b x i && rz_b y i) := by
  unfold rz_b; rw [Int32.toBitVec_and, BitVec.getLsbD_and]
theorem rz_b_or (x y : Int32) (i : Nat) : rz_b (x ||| y) i = (rz_b x i || rz_b y i) := by
  unfold rz_b; rw [Int32.toBitVec_or, BitVec.getLsbD_or]
theorem rz_b_xor (x y : Int32) (i : Nat) : rz_b (x ^^^ y) i = (rz_b x i != rz_b y i) := by
  unfold rz_b; rw [Int32.toBitVec_xor, BitVec.getLsbD_xor]
theorem rz_b15 : ∀ i, i < 32 → rz_b 15 i = decide (i < 4) := by decide +kernel
theorem rz_b_shr {x : Int32} {k i : Nat} (hk : k < 4) (hi : i < 4) : rz_b (x >>> (Int32.ofNat k * 4 &&& 31)) i = rz_b x (4 * k + i) := by
  have e : (Int32.ofNat k * 4 &&& 31 : Int32).toBitVec.smod 32 = BitVec.ofNat 32 (4 * k) := by
    have key : ∀ k, k < 4 → (Int32.ofNat k * 4 &&& 31 : Int32).toBitVec.smod 32 = BitVec.ofNat 32 (4 * k) := by decide +kernel
    exact key k hk
  unfold rz_b
  rw [Int32.toBitVec_shiftRight, e]
  have e2 : (BitVec.ofNat 32 (4 * k)).toNat = 4 * k := by rw [BitVec.toNat_ofNat]; omega
  rw [BitVec.sshiftRight', e2, BitVec.getLsbD_sshiftRight]
  rw [if_pos (by omega)]
  simp; omega
theorem rz_b_shl {x : Int32} {d j : Nat} (hd : d < 4) (hj : j < 32) : rz_b (x <<< (Int32.ofNat d * 4 &&& 31)) j = (decide (4 * d ≤ j) && rz_b x (j - 4 * d)) := by
  have e : (Int32.ofNat d * 4 &&& 31 : Int32).toBitVec.smod 32 = BitVec.ofNat 32 (4 * d) := by
    have key : ∀ k, k < 4 → (Int32.ofNat k * 4 &&& 31 : Int32).toBitVec.smod 32 = BitVec.ofNat 32 (4 * k) := by decide +kernel
    exact key d hd
  unfold rz_b
  rw [Int32.toBitVec_shiftLeft, e]
  have e2 : (BitVec.ofNat 32 (4 * d)).toNat = 4 * d := by rw [BitVec.toNat_ofNat]; omega
  rw [BitVec.shiftLeft_eq', e2, BitVec.getLsbD_shiftLeft]
  by_cases h : 4 * d ≤ j
  · simp [h, hj]
  · simp [h, Nat.not_le.mp h]
theorem rz_b_vl {r : Int32} {k i : Nat} (hk : k < 4) (hi : i < 32) : rz_b (rz_vl r (Int32.ofNat k)) i = (decide (i < 4) && rz_b r (4 * k + i)) := by
  unfold rz_vl
  rw [rz_b_and, rz_b15 i hi]
  by_cases h : i < 4
  · rw [rz_b_shr hk h]; simp [h]
  · simp [h]
theorem rz_vl_eq {r r' : Int32} {k k' : Nat} (hk : k < 4) (hk' : k' < 4) (h : ∀ i, i < 4 → rz_b r (4 * k + i) = rz_b r' (4 * k' + i)) : rz_vl r (Int32.ofNat k) = rz_vl r' (Int32.ofNat k') := by
  apply rz_b_ext
  intro i hi
  rw [rz_b_vl hk hi, rz_b_vl hk' hi]
  by_cases h4 : i < 4
  · rw [h i h4]
  · simp [h4]
theorem rz_msk : ∀ d, d < 4 → d ≠ 0 → ∀ j, j < 32 → rz_b ((15 <<< (Int32.ofNat d * 4 &&& 31)) ^^^ Int32.ofInt (-1)) j = !(decide (4 * d ≤ j) && decide (j < 4 * d + 4)) := by decide +kernel
theorem rz_wv {d k : Nat} (hd : d < 4) (hk : k < 4) (r x : Int32) : rz_vl (rz_wi r (Int32.ofNat d) x) (Int32.ofNat k) = if k = d ∧ d ≠ 0 then x &&& 15 else rz_vl r (Int32.ofNat k) := by
  unfold rz_wi
  by_cases h0 : d = 0
  · subst h0
    rw [if_pos (show Int32.ofNat 0 = 0 from rfl), if_neg (by omega)]
  · have hn : ¬ Int32.ofNat d = 0 := fun q => h0 ((rz_eq_iff (k := 0) (by omega) (by omega)).mp q)
    rw [if_neg hn]
    apply rz_b_ext
    intro i hi
    rw [rz_b_vl hk hi]
    by_cases h4 : i < 4
    · rw [rz_b_or, rz_b_and, rz_msk d hd h0 _ (by omega), rz_b_shl hd (by omega), rz_b_and]
      by_cases hkd : k = d
      · subst hkd
        rw [if_pos ⟨rfl, h0⟩, rz_b_and, rz_b15 i hi]
        have e : 4 * k + i - 4 * k = i := by omega
        rw [e, rz_b15 i hi]
        simp [h4]
      · rw [if_neg (fun q => hkd q.1), rz_b_vl hk hi]
        by_cases hlt : 4 * d ≤ 4 * k + i
        · have h2 : ¬ 4 * k + i < 4 * d + 4 := by omega
          have h3 : ¬ 4 * k + i - 4 * d < 4 := by omega
          rw [rz_b15 (4 * k + i - 4 * d) (by omega)]
          simp [h4, h2, h3]
        · simp [h4, hlt]
    · by_cases hkd : k = d ∧ d ≠ 0
      · rw [if_pos hkd, rz_b_and, rz_b15 i hi]
        simp [h4]
      · rw [if_neg hkd, rz_b_vl hk hi]
        simp [h4]
/-- the mask of a set, by the class's loop -/
def rz_mo (S : Int32) : Nat → Int32
  | 0 => 0
  | k + 1 => if (S >>> (Int32.ofNat k &&& 31)) &&& 1 = 1 then rz_mo S k ||| (15 <<< (Int32.ofNat k * 4 &&& 31)) else rz_mo S k
def rz_on (S : Int32) (k : Nat) : Prop := (S >>> (Int32.ofNat k &&& 31)) &&& 1 = 1
theorem rz_mod : ∀ S, S < 16 → ∀ j, j < 32 → rz_b (rz_mo (Int32.ofNat S) 4) j = (decide (j < 16) && decide ((Int32.ofNat S >>> (Int32.ofNat (j / 4) &&& 31)) &&& 1 = 1)) := by decide +kernel
theorem rz_cmp0 {A B : Int32} {S : Nat} (hS : S < 16) : ((A ^^^ B) &&& rz_mo (Int32.ofNat S) 4 = 0) ↔ ∀ k, k < 4 → rz_on (Int32.ofNat S) k → rz_vl A (Int32.ofNat k) = rz_vl B (Int32.ofNat k) := by
  have h0 : ∀ j, rz_b 0 j = false := fun j => by show (0#32).getLsbD j = false; simp
  constructor
  · intro h k hk hon
    apply rz_vl_eq hk hk
    intro i hi
    have h1 : rz_b ((A ^^^ B) &&& rz_mo (Int32.ofNat S) 4) (4 * k + i) = false := by rw [h]; exact h0 _
    rw [rz_b_and, rz_mod S hS _ (by omega), rz_b_xor] at h1
    have e : (4 * k + i) / 4 = k := by omega
    have h2 : decide (4 * k + i < 16) = true := decide_eq_true (by omega)
    have h3 : decide ((Int32.ofNat S >>> (Int32.ofNat k &&& 31)) &&& 1 = 1) = true := decide_eq_true hon
    rw [e, h2, h3] at h1
    cases h4 : rz_b A (4 * k + i) <;> cases h5 : rz_b B (4 * k + i) <;> simp [h4, h5] at h1 <;> rfl
  · intro h
    apply rz_b_ext
    intro j hj
    rw [h0, rz_b_and, rz_mod S hS _ hj, rz_b_xor]
    by_cases h16 : j < 16
    · by_cases hon : (Int32.ofNat S >>> (Int32.ofNat (j / 4) &&& 31)) &&& 1 = 1
      · have h1 := h (j / 4) (by omega) hon
        have h2 : rz_b (rz_vl A (Int32.ofNat (j / 4))) (j % 4) = rz_b (rz_vl B (Int32.ofNat (j / 4))) (j % 4) := by rw [h1]
        rw [rz_b_vl (by omega) (by omega), rz_b_vl (by omega) (by omega)] at h2
        have e : 4 * (j / 4) + j % 4 = j := by omega
        have h4 : decide (j % 4 < 4) = true := decide_eq_true (by omega)
        rw [e, h4] at h2
        cases h4 : rz_b A j <;> cases h5 : rz_b B j <;> simp [h4, h5] at h2 <;> rfl
      · have h3 : decide ((Int32.ofNat S >>> (Int32.ofNat (j / 4) &&& 31)) &&& 1 = 1) = false := decide_eq_false hon
        rw [h3]; simp
    · have h3 : decide (j < 16) = false := decide_eq_false h16
      rw [h3]; simp
/-! what an instruction and a row do to registers -/
def rz_made (o : Nat) (x y : Int32) : Int32 := (if o = 0 ∨ o = 6 then x + y else if o = 1 then x - y else if o = 2 ∨ o = 7 then x &&& y else if o = 3 then x ||| y else if o = 4 ∨ o = 8 then x ^^^ y else if o = 5 then (if x < y then 1 else 0) else x <<< (y &&& 31)) &&& 15
def rz_sp (q : rz_Q) (x : Nat → Int32) : Nat → Int32 := fun k => if k = q.2.1 then (if q.2.1 = 0 then 0 else rz_made q.1 (x q.2.2.1) (if q.1 ≤ 5 then x q.2.2.2 else Int32.ofNat q.2.2.2)) else x k
def rz_sq (R : Nat → rz_Q) (p : Nat) : Nat → (Nat → Int32) → Nat → Int32
  | 0, x => x
  | m + 1, x => rz_sp (R (p + m)) (rz_sq R p m x)
def rz_bg (s : Nat) : Nat → Int32 := fun k => if k = 1 then Int32.ofNat s &&& 15 else if k = 2 then (Int32.ofNat s >>> (4 &&& 31)) &&& 15 else if k = 3 then Int32.ofNat s >>> (8 &&& 31) else 0
def rz_ag (F G : (Nat → Int32) → Nat → Int32) (S : Int32) : Prop := ∀ s, s < 4096 → ∀ k, 1 ≤ k → k < 4 → rz_on S k → F (rz_bg s) k = G (rz_bg s) k
set_option maxRecDepth 100000 in
theorem rz_bg8 : ∀ s1, s1 < 64 → ∀ s2, s2 < 64 → Int32.ofNat (64 * s1 + s2) >>> (8 &&& 31) = (Int32.ofNat (64 * s1 + s2) >>> (8 &&& 31)) &&& 15 := by decide +kernel
theorem rz_bg_vl {s k : Nat} (hs : s < 4096) (hk : k < 4) : rz_vl (Int32.ofNat s <<< (4 &&& 31)) (Int32.ofNat k) = rz_bg s k := by
  have hsh : ∀ j, j < 32 → rz_b (Int32.ofNat s <<< (4 &&& 31)) j = (decide (4 ≤ j) && rz_b (Int32.ofNat s) (j - 4)) := fun j hj => rz_b_shl (d := 1) (by omega) hj
  have h8 := rz_bg8 (s / 64) (by omega) (s % 64) (by omega)
  rw [show 64 * (s / 64) + s % 64 = s by omega] at h8
  apply rz_b_ext
  intro i hi
  rw [rz_b_vl hk hi]
  rcases (show k = 0 ∨ k = 1 ∨ k = 2 ∨ k = 3 by omega) with rfl | rfl | rfl | rfl
  · show _ = rz_b 0 i
    have h0 : rz_b 0 i = false := by show (0#32).getLsbD i = false; simp
    rw [h0]
    by_cases h : i < 4
    · rw [hsh _ (by omega), decide_eq_false (by omega : ¬ 4 ≤ 4 * 0 + i)]; simp
    · simp [h]
  · show _ = rz_b (Int32.ofNat s &&& 15) i
    rw [rz_b_and, rz_b15 i hi]
    by_cases h : i < 4
    · rw [hsh _ (by omega), decide_eq_true (by omega : 4 ≤ 4 * 1 + i), show 4 * 1 + i - 4 = i by omega]; simp [h]
    · simp [h]
  · show _ = rz_b ((Int32.ofNat s >>> (4 &&& 31)) &&& 15) i
    rw [rz_b_and, rz_b15 i hi]
    by_cases h : i < 4
    · have e : rz_b (Int32.ofNat s >>> (4 &&& 31)) i = rz_b (Int32.ofNat s) (4 + i) := rz_b_shr (k := 1) (by omega) h
      rw [hsh _ (by omega), decide_eq_true (by omega : 4 ≤ 4 * 2 + i), show 4 * 2 + i - 4 = 4 + i by omega, e]; simp [h]
    · simp [h]
  · show _ = rz_b (Int32.ofNat s >>> (8 &&& 31)) i
    rw [h8, rz_b_and, rz_b15 i hi]
    by_cases h : i < 4
    · have e : rz_b (Int32.ofNat s >>> (8 &&& 31)) i = rz_b (Int32.ofNat s) (8 + i) := rz_b_shr (k := 2) (by omega) h
      rw [hsh _ (by omega), decide_eq_true (by omega : 4 ≤ 4 * 3 + i), show 4 * 3 + i - 4 = 8 + i by omega, e]; simp [h]
    · simp [h]
/-- packed registers and a state -/
def rz_rg (r : Int32) (x : Nat → Int32) : Prop := x 0 = 0 ∧ ∀ k, k < 4 → rz_vl r (Int32.ofNat k) = x k
/-! which registers live: sweeps over the program, and where they end -/
section RZSL
variable {a A : Nat → Nat → Int32} {R : Nat → rz_Q} {n p : Nat} {f f' : Nat → Int32}
def rz_fam (R : Nat → rz_Q) : Nat → Nat → Int32 := fun i k => if i = 20 then Int32.ofNat (R k).1 else if i = 21 then Int32.ofNat (R k).2.1 else if i = 22 then Int32.ofNat (R k).2.2.1 else Int32.ofNat (R k).2.2.2
def rz_pr (a : Nat → Nat → Int32) (R : Nat → rz_Q) (n : Nat) : Prop := ∀ k, k < n → a 20 k = Int32.ofNat (R k).1 ∧ a 21 k = Int32.ofNat (R k).2.1 ∧ a 22 k = Int32.ofNat (R k).2.2.1 ∧ a 23 k = Int32.ofNat (R k).2.2.2
def rz_pc (a : Nat → Nat → Int32) (R : Nat → rz_Q) (n : Nat) : Prop := ∀ k, k < n → a 0 k = rz_pk (R k)
def rz_lgs (R : Nat → rz_Q) (n : Nat) : Prop := ∀ k, k < n → rz_lg (R k)
theorem rz_fam_li {k : Nat} (h : rz_lg (R k)) : rz_li (rz_fam R) k := ⟨_, _, _, _, rfl, rfl, rfl, rfl, h.1, h.2.1, h.2.2.1, h.2.2.2.1, h.2.2.2.2⟩
theorem rz_pr_li {k : Nat} (hp : rz_pr a R n) (hl : rz_lgs R n) (hk : k < n) : rz_li a k := by
  obtain ⟨e1, e2, e3, e4⟩ := hp k hk
  have h := hl k hk
  exact ⟨_, _, _, _, e1, e2, e3, e4, h.1, h.2.1, h.2.2.1, h.2.2.2.1, h.2.2.2.2⟩
theorem rz_Fp_pr (hp : rz_pr a R n) (hk : p < n) : rz_Fp a n f p = rz_Fp (rz_fam R) n f p := by
  obtain ⟨e1, e2, e3, e4⟩ := hp p hk
  unfold rz_Fp
  rw [e1, e2, e3, e4]
  rfl
theorem rz_at_cg {k : Nat} (h : ∀ k, k < n → f k = f' k) : rz_at n f k = rz_at n f' k := by
  unfold rz_at; split
  · rename_i hk; exact h k hk
  · rfl
theorem rz_Fp_cg (h : ∀ k, k < n → f k = f' k) : rz_Fp A n f p = rz_Fp A n f' p := by
  have e : ∀ k, rz_at n f k = rz_at n f' k := fun k => rz_at_cg h
  unfold rz_Fp rz_b1 rz_b2
  simp only [e]
def rz_sw (A : Nat → Nat → Int32) (n : Nat) : Nat → (Nat → Int32) → Nat → Int32
  | 0, f => f
  | k + 1, f => rz_sw A n k (upd f k (rz_Fp A n f k))
def rz_it (A : Nat → Nat → Int32) (n : Nat) : Nat → Nat → Int32
  | 0 => fun _ => 0
  | j + 1 => rz_sw A n n (rz_it A n j)
def rz_p3 (x : Int32) : Nat := (if x &&& 2 = 0 then 1 else 0) + (if x &&& 4 = 0 then 1 else 0) + (if x &&& 8 = 0 then 1 else 0)
def rz_mz (f : Nat → Int32) : Nat → Nat
  | 0 => 0
  | k + 1 => rz_mz f k + rz_p3 (f k)
theorem rz_mz_far {x : Int32} : ∀ n, n ≤ p → rz_mz (upd f p x) n = rz_mz f n := by
  intro n
  induction n with
  | zero => intro _; rfl
  | succ n ih =>
    intro h
    rw [rz_mz, rz_mz, ih (by omega)]
    simp only [upd]
    rw [if_neg (by omega)]
theorem rz_mz_up {x : Int32} : ∀ n, p < n → rz_mz (upd f p x) n + rz_p3 (f p) = rz_mz f n + rz_p3 x := by
  intro n
  induction n with
  | zero => intro h; omega
  | succ n ih =>
    intro h
    rw [rz_mz, rz_mz]
    by_cases hp : p = n
    · subst hp
      rw [rz_mz_far p (Nat.le_refl _)]
      simp only [upd, if_true]
      omega
    · have := ih (by omega)
      simp only [upd]
      rw [if_neg (by omega : ¬ n = p)]
      omega
theorem rz_sb.of {x y : Int32} (h : x &&& y = x) : rz_sb x y := fun i q => by
  rw [← h, Int32.toBitVec_and, BitVec.getLsbD_and, Bool.and_eq_true] at q
  exact q.2
theorem rz_14 {x : Int32} (h : rz_sb x 14) : ∃ i, i < 16 ∧ x = Int32.ofNat i ∧ Int32.ofNat i &&& 14 = Int32.ofNat i := by
  obtain ⟨k, hk, e⟩ := rz_mask x 14 (by decide)
  have e2 : x = Int32.ofNat k := h.eq.symm.trans e
  exact ⟨k, by omega, e2, by rw [← e2]; exact h.eq⟩
theorem rz_p3_sb {x y : Int32} (hx : rz_sb x 14) (hy : rz_sb y 14) (h : rz_sb x y) : rz_p3 y ≤ rz_p3 x ∧ (¬ y = x → rz_p3 y < rz_p3 x) := by
  obtain ⟨i, hi, rfl, ei⟩ := rz_14 hx
  obtain ⟨j, hj, rfl, ej⟩ := rz_14 hy
  have key : (List.range 16).all (fun i => (List.range 16).all (fun j => !(decide (Int32.ofNat i &&& 14 = Int32.ofNat i) && decide (Int32.ofNat j &&& 14 = Int32.ofNat j) && decide (Int32.ofNat i &&& Int32.ofNat j = Int32.ofNat i)) || (decide (rz_p3 (Int32.ofNat j) ≤ rz_p3 (Int32.ofNat i)) && (decide (Int32.ofNat j = Int32.ofNat i) || decide (rz_p3 (Int32.ofNat j) < rz_p3 (Int32.ofNat i)))))) = true := by decide +kernel
  have h1 := List.all_eq_true.mp (List.all_eq_true.mp key i (List.mem_range.mpr hi)) j (List.mem_range.mpr hj)
  rw [decide_eq_true ei, decide_eq_true ej, decide_eq_true h.eq] at h1
  simp only [Bool.and_true, Bool.not_true, Bool.false_or, Bool.and_eq_true, Bool.or_eq_true, decide_eq_true_eq] at h1
  exact ⟨h1.1, fun hne => h1.2.resolve_left hne⟩
theorem rz_bit14 {r : Nat} (hr : r ≤ 3) : rz_sb (rz_bit (Int32.ofNat r)) 14 := by
  have key : ∀ r, r < 4 → rz_bit (Int32.ofNat r) &&& 14 = rz_bit (Int32.ofNat r) := by decide +kernel
  exact rz_sb.of (key r (by omega))
theorem rz_sb.or14 {x y : Int32} (hx : rz_sb x 14) (hy : rz_sb y 14) : rz_sb (x ||| y) 14 := hx.or hy
theorem rz_sb.and14 {x c : Int32} (hx : rz_sb x 14) : rz_sb (x &&& c) 14 := fun i q => by
  rw [Int32.toBitVec_and, BitVec.getLsbD_and, Bool.and_eq_true] at q
  exact hx i q.1
theorem rz_rd14 {o d s t : Int32} (h : rz_LI o d s t) : rz_sb (rz_rd o d s t) 14 := by
  obtain ⟨o', d', s', t', rfl, rfl, rfl, rfl, b1, b2, b3, b4, b5⟩ := h
  unfold rz_rd
  split
  · split
    · split
      · split
        · exact rz_sb.zero
        · exact rz_sb.rf
      · exact (rz_bit14 b2).or14 (rz_bit14 b3)
    · exact rz_bit14 b3
  · rename_i h
    have h5 : o' ≤ 5 := Nat.not_lt.mp fun q => h ((rz_lt_iff (n := 5) (by omega) (by omega)).mpr q)
    exact (rz_bit14 b3).or14 (rz_bit14 (b5 h5))
theorem rz_at14 {k : Nat} (h : ∀ p, p < n → rz_sb (f p) 14) : rz_sb (rz_at n f k) 14 := by
  unfold rz_at; split
  · rename_i hk; exact h k hk
  · exact rz_sb.rf
theorem rz_b114 {o : Int32} (h : ∀ p, p < n → rz_sb (f p) 14) : rz_sb (rz_b1 n f o p) 14 := by
  unfold rz_b1; split
  · exact rz_sb.zero
  · exact rz_at14 h
theorem rz_b214 {o : Int32} {t : Nat} (h : ∀ p, p < n → rz_sb (f p) 14) : rz_sb (rz_b2 n f o t) 14 := by
  unfold rz_b2; split
  · exact rz_at14 h
  · exact rz_sb.zero
theorem rz_Fp14 (h : ∀ p, p < n → rz_sb (f p) 14) (hli : rz_li A p) : rz_sb (rz_Fp A n f p) 14 :=
  (rz_rd14 hli).or14 (rz_sb.and14 ((rz_b114 h).or14 (rz_b214 h)))
def rz_K (A : Nat → Nat → Int32) (n : Nat) (f : Nat → Int32) : Prop := (∀ p, p < n → rz_sb (f p) 14) ∧ ∀ p, p < n → rz_sb (f p) (rz_Fp A n f p)
theorem rz_K_step (hK : rz_K A n f) (hp : p < n) (hli : rz_li A p) : rz_K A n (upd f p (rz_Fp A n f p)) ∧ rz_mz (upd f p (rz_Fp A n f p)) n ≤ rz_mz f n ∧ (¬ rz_Fp A n f p = f p → rz_mz (upd f p (rz_Fp A n f p)) n < rz_mz f n) := by
  have hs : rz_sb (rz_Fp A n f p) 14 := rz_Fp14 hK.1 hli
  have hgrow : ∀ k, rz_sb (f k) (upd f p (rz_Fp A n f p) k) := fun k => by
    by_cases hk : k = p
    · simp only [upd, hk, if_true]; exact hK.2 p hp
    · simp only [upd, hk, if_false]; exact rz_sb.rf
  have hsum := rz_mz_up (f := f) (p := p) (x := rz_Fp A n f p) n hp
  obtain ⟨h1, h2⟩ := rz_p3_sb (hK.1 p hp) hs (hK.2 p hp)
  refine ⟨⟨fun k hk => ?_, fun q hq => ?_⟩, by omega, fun hne => ?_⟩
  · by_cases hkp : k = p
    · simp only [upd, hkp, if_true]; exact hs
    · simp only [upd, hkp, if_false]; exact hK.1 k hk
  · by_cases hqp : q = p
    · subst hqp
      simp only [upd, if_true]
      exact rz_Fp_sb hgrow
    · have : upd f p (rz_Fp A n f p) q = f q := by simp [upd, hqp]
      rw [this]
      exact (hK.2 q hq).tr (rz_Fp_sb hgrow)
  · have := h2 hne
    omega
theorem rz_upd_self {k : Nat} {x : Int32} (h : x = f k) : upd f k x = f := by
  funext j
  by_cases hj : j = k
  · simp [upd, hj, h]
  · simp [upd, hj]
theorem rz_sw_K (hli : ∀ p, p < n → rz_li A p) : ∀ k, k ≤ n → ∀ f, rz_K A n f → rz_K A n (rz_sw A n k f) ∧ rz_mz (rz_sw A n k f) n ≤ rz_mz f n ∧ (rz_mz (rz_sw A n k f) n = rz_mz f n → rz_sw A n k f = f) := by
  intro k
  induction k with
  | zero => intro _ f hK; exact ⟨hK, Nat.le_refl _, fun _ => rfl⟩
  | succ k ih =>
    intro hk f hK
    obtain ⟨s1, s2, s3⟩ := rz_K_step hK (show k < n by omega) (hli k (by omega))
    obtain ⟨i1, i2, i3⟩ := ih (by omega) _ s1
    refine ⟨i1, Nat.le_trans i2 s2, fun he => ?_⟩
    have he' : rz_mz (rz_sw A n k (upd f k (rz_Fp A n f k))) n = rz_mz f n := he
    have e1 : rz_Fp A n f k = f k := Classical.byContradiction fun hne => by have := s3 hne; omega
    have e2 : upd f k (rz_Fp A n f k) = f := rz_upd_self e1
    have e3 := i3 (by omega)
    show rz_sw A n k (upd f k (rz_Fp A n f k)) = f
    rw [e3, e2]
theorem rz_it_K (hli : ∀ p, p < n → rz_li A p) : ∀ j, rz_K A n (rz_it A n j) := by
  intro j
  induction j with
  | zero => exact ⟨fun _ _ => rz_sb.zero, fun _ _ => rz_sb.zero⟩
  | succ j ih => exact (rz_sw_K hli n (Nat.le_refl _) _ ih).1
theorem rz_mz_0 : ∀ n, rz_mz (fun _ => 0) n = 3 * n := by
  intro n
  induction n with
  | zero => rfl
  | succ n ih => rw [rz_mz, ih, show rz_p3 0 = 3 by decide]; omega
theorem rz_it_m (hli : ∀ p, p < n → rz_li A p) : ∀ j, rz_mz (rz_it A n j) n + j ≤ 3 * n ∨ ∃ i, i < j ∧ rz_sw A n n (rz_it A n i) = rz_it A n i := by
  intro j
  induction j with
  | zero => exact Or.inl (by rw [rz_it, rz_mz_0]; omega)
  | succ j ih =>
    rcases ih with h | ⟨i, hi, h⟩
    · obtain ⟨-, i2, i3⟩ := rz_sw_K hli n (Nat.le_refl _) _ (rz_it_K hli j)
      by_cases he : rz_mz (rz_sw A n n (rz_it A n j)) n = rz_mz (rz_it A n j) n
      · exact Or.inr ⟨j, by omega, i3 he⟩
      · refine Or.inl ?_
        show rz_mz (rz_sw A n n (rz_it A n j)) n + (j + 1) ≤ 3 * n
        omega
    · exact Or.inr ⟨i, by omega, h⟩
theorem rz_it_st {i : Nat} (h : rz_sw A n n (rz_it A n i) = rz_it A n i) : ∀ d, rz_it A n (i + d) = rz_it A n i := by
  intro d
  induction d with
  | zero => rfl
  | succ d ih =>
    show rz_sw A n n (rz_it A n (i + d)) = rz_it A n i
    rw [ih, h]
theorem rz_it_72 (hli : ∀ p, p < n → rz_li A p) (hn : n ≤ 24) : rz_sw A n n (rz_it A n 72) = rz_it A n 72 := by
  rcases rz_it_m hli 73 with h | ⟨i, hi, h⟩
  · omega
  · have e := rz_it_st h (72 - i)
    rw [show i + (72 - i) = 72 by omega] at e
    rw [e]; exact h
theorem rz_it_eq (hli : ∀ p, p < n → rz_li A p) (hn : n ≤ 24) {j : Nat} (h : rz_sw A n n (rz_it A n j) = rz_it A n j) : rz_it A n j = rz_it A n 72 := by
  by_cases hj : j ≤ 72
  · have e := rz_it_st h (72 - j)
    rw [show j + (72 - j) = 72 by omega] at e
    exact e.symm
  · have e := rz_it_st (rz_it_72 hli hn) (j - 72)
    rw [show 72 + (j - 72) = j by omega] at e
    exact e
/-- which registers live before the places of a program -/
def rz_lv (R : Nat → rz_Q) (n : Nat) : Nat → Int32 := rz_it (rz_fam R) n 72
theorem rz_lv14 (hl : rz_lgs R n) (k : Nat) : rz_sb (rz_at n (rz_lv R n) k) 14 := rz_at14 (rz_it_K (fun p hp => rz_fam_li (hl p hp)) 72).1
end RZSL
