/-! the reference's liveness: the search comes to an end, for what is found only grows -/
section RZM4
variable {xs : Nat → Int32} {xl : Nat} {v : Nat → Int32} {a : Nat → Nat → Int32} {g : Nat → Int64}
def rz_at (n : Nat) (f : Nat → Int32) (k : Nat) : Int32 := if k < n then f k else 14
theorem m_livesAt {n k : Nat} (hv : v 21 = Int32.ofNat n) (hn : n ≤ 24) (hk : k ≤ 24) : rz_C xs xl 87 [.ref 25, .int (Int32.ofNat k)] (rz_w v a g) (fun q w' => q = .inl (some (.int (rz_at n (a 26) k))) ∧ w' = rz_w v a g) := by
  refine ev_ps 3 rfl (ev_ic (cd := .lt) rfl (fun h => ?_) (fun h => ?_))
  · rw [hv] at h
    have hkn : k < n := rn_lt_t (by omega) (by omega) h
    refine ev_ps 3 rfl (ev_ald rfl rfl (rz_in (by omega) (by decide)) ?_)
    exact ev_ret rfl rfl ⟨by rw [rz_at, if_pos hkn, rz_clamp (by omega)], rfl⟩
  · rw [hv] at h
    have hkn : n ≤ k := rn_lt_f (by omega) (by omega) h
    exact ev_ps 2 rfl (ev_ret rfl rfl ⟨by rw [rz_at, if_neg (by omega)]; rfl, rfl⟩)
def rz_rd (o d s t : Int32) : Int32 := if 5 < o then (if 10 < o then (if 13 < o then (if o = 14 then 0 else 14) else rz_bit d ||| rz_bit s) else rz_bit s) else rz_bit s ||| rz_bit t
theorem m_reads {k : Nat} (hk : k < 25) : rz_C xs xl 89 [.ref 25, .int (Int32.ofNat k)] (rz_w v a g) (fun q w' => q = .inl (some (.int (rz_rd (a 20 k) (a 21 k) (a 22 k) (a 23 k)))) ∧ w' = rz_w v a g) := by
  have e := rz_clamp (k := k) (by omega)
  have hin : ¬ (Int32.ofNat k < 0 ∨ 25 ≤ (Int32.ofNat k).toNatClampNeg) := rz_in hk (by decide)
  refine ev_ps 3 rfl (ev_ald rfl rfl hin ?_)
  rw [e]
  refine ev_ps 3 rfl (ev_ic (cd := .gt) rfl (fun h1 => ?_) (fun h1 => ?_))
  · have g1 : 5 < a 20 k := rc_gt_t h1
    refine ev_ps 2 rfl (ev_ic (cd := .gt) rfl (fun h2 => ?_) (fun h2 => ?_))
    · have g2 : 10 < a 20 k := rc_gt_t h2
      refine ev_ps 2 rfl (ev_ic (cd := .gt) rfl (fun h3 => ?_) (fun h3 => ?_))
      · have g3 : 13 < a 20 k := rc_gt_t h3
        refine ev_ps 2 rfl (ev_ic (cd := .ne) rfl (fun h4 => ?_) (fun h4 => ?_))
        · have g4 : ¬ a 20 k = 14 := rc_ne_t h4
          exact ev_ps 1 rfl (ev_ret rfl rfl ⟨by rw [rz_rd, if_pos g1, if_pos g2, if_pos g3, if_neg g4]; rfl, rfl⟩)
        · have g4 : a 20 k = 14 := rc_ne_f h4
          exact ev_ps 2 rfl (ev_ret rfl rfl ⟨by rw [rz_rd, if_pos g1, if_pos g2, if_pos g3, if_pos g4]; rfl, rfl⟩)
      · have g3 : ¬ 13 < a 20 k := rc_gt_f h3
        refine ev_ps 3 rfl (ev_ald rfl rfl hin ?_)
        rw [e]
        refine ev_call (av := [_]) rfl rfl rfl rfl ⟨Nat.le_of_ble_eq_true rfl, rfl⟩ ⟨Nat.le_of_ble_eq_true rfl, Nat.le_of_ble_eq_true rfl⟩ (m_bit _) ?_
        rintro _ _ ⟨rfl, rfl⟩
        refine ev_ps 3 rfl (ev_ald rfl rfl hin ?_)
        rw [e]
        refine ev_call (av := [_]) rfl rfl rfl rfl ⟨Nat.le_of_ble_eq_true rfl, rfl⟩ ⟨Nat.le_of_ble_eq_true rfl, Nat.le_of_ble_eq_true rfl⟩ (m_bit _) ?_
        rintro _ _ ⟨rfl, rfl⟩
        exact ev_ps 2 rfl (ev_ret rfl rfl ⟨by rw [rz_rd, if_pos g1, if_pos g2, if_neg g3], rfl⟩)
    · have g2 : ¬ 10 < a 20 k := rc_gt_f h2
      refine ev_ps 3 rfl (ev_ald rfl rfl hin ?_)
      rw [e]
      refine ev_call (av := [_]) rfl rfl rfl rfl ⟨Nat.le_of_ble_eq_true rfl, rfl⟩ ⟨Nat.le_of_ble_eq_true rfl, Nat.le_of_ble_eq_true rfl⟩ (m_bit _) ?_
      rintro _ _ ⟨rfl, rfl⟩
      exact ev_ret rfl rfl ⟨by rw [rz_rd, if_pos g1, if_neg g2], rfl⟩
  · have g1 : ¬ 5 < a 20 k := rc_gt_f h1
    refine ev_ps 3 rfl (ev_ald rfl rfl hin ?_)
    rw [e]
    refine ev_call (av := [_]) rfl rfl rfl rfl ⟨Nat.le_of_ble_eq_true rfl, rfl⟩ ⟨Nat.le_of_ble_eq_true rfl, Nat.le_of_ble_eq_true rfl⟩ (m_bit _) ?_
    rintro _ _ ⟨rfl, rfl⟩
    refine ev_ps 3 rfl (ev_ald rfl rfl hin ?_)
    rw [e]
    refine ev_call (av := [_]) rfl rfl rfl rfl ⟨Nat.le_of_ble_eq_true rfl, rfl⟩ ⟨Nat.le_of_ble_eq_true rfl, Nat.le_of_ble_eq_true rfl⟩ (m_bit _) ?_
    rintro _ _ ⟨rfl, rfl⟩
    exact ev_ps 1 rfl (ev_ret rfl rfl ⟨by rw [rz_rd, if_neg g1], rfl⟩)
/-- all bits of x are bits of y -/
def rz_sb (x y : Int32) : Prop := ∀ i, x.toBitVec.getLsbD i = true → y.toBitVec.getLsbD i = true
theorem rz_sb.rf {x : Int32} : rz_sb x x := fun _ h => h
theorem rz_sb.tr {x y z : Int32} (h : rz_sb x y) (h2 : rz_sb y z) : rz_sb x z := fun i q => h2 i (h i q)
theorem rz_sb.or {x y x' y' : Int32} (h : rz_sb x x') (h2 : rz_sb y y') : rz_sb (x ||| y) (x' ||| y') := fun i q => by
  rw [Int32.toBitVec_or, BitVec.getLsbD_or, Bool.or_eq_true] at q ⊢
  exact q.imp (h i) (h2 i)
theorem rz_sb.and {x x' c : Int32} (h : rz_sb x x') : rz_sb (x &&& c) (x' &&& c) := fun i q => by
  rw [Int32.toBitVec_and, BitVec.getLsbD_and, Bool.and_eq_true] at q ⊢
  exact ⟨h i q.1, q.2⟩
theorem rz_sb.zero {x : Int32} : rz_sb 0 x := fun i q => by
  have : (0 : Int32).toBitVec.getLsbD i = false := by
    show (0#32).getLsbD i = false
    simp
  rw [this] at q; cases q
theorem rz_sb.eq {x y : Int32} (h : rz_sb x y) : x &&& y = x := by
  apply Int32.toBitVec_inj.mp
  apply BitVec.eq_of_getLsbD_eq
  intro i _
  rw [Int32.toBitVec_and, BitVec.getLsbD_and]
  cases hx : x.toBitVec.getLsbD i with
  | false => rfl
  | true => rw [h i hx]; rfl
theorem rz_sb_nat {i j : Nat} (hi : i ≤ 15) (hj : j ≤ 15) (h : rz_sb (Int32.ofNat i) (Int32.ofNat j)) : i ≤ j := by
  have key : ∀ i < 16, ∀ j < 16, Int32.ofNat i &&& Int32.ofNat j = Int32.ofNat i → i ≤ j := by decide +kernel
  exact key i (by omega) j (by omega) h.eq
def rz_s1 (x : Int32) : Prop := ∃ j : Nat, j ≤ 15 ∧ x = Int32.ofNat j
theorem rz_s1.or {x y : Int32} (hx : rz_s1 x) (hy : rz_s1 y) : rz_s1 (x ||| y) := by
  obtain ⟨i, hi, rfl⟩ := hx
  obtain ⟨j, hj, rfl⟩ := hy
  have key : ∀ i < 16, ∀ j < 16, Int32.ofNat i ||| Int32.ofNat j = Int32.ofNat (i ||| j) ∧ i ||| j < 16 := by decide +kernel
  have := key i (by omega) j (by omega)
  exact ⟨i ||| j, by omega, this.1⟩
theorem rz_s1.and {x c : Int32} (hx : rz_s1 x) : rz_s1 (x &&& c) := by
  obtain ⟨i, hi, rfl⟩ := hx
  obtain ⟨k, hk, e⟩ := rz_mask c i (by omega)
  exact ⟨k, by omega, by rw [Int32.and_comm]; exact e⟩
theorem rz_s1.bit {r : Nat} (hr : r ≤ 3) : rz_s1 (rz_bit (Int32.ofNat r)) := by
  have key : ∀ r < 4, rz_bit (Int32.ofNat r) = Int32.ofNat (if r = 0 then 0 else 2 ^ r) := by decide +kernel
  refine ⟨if r = 0 then 0 else 2 ^ r, ?_, key r (by omega)⟩
  have : ∀ r < 4, (if r = 0 then 0 else 2 ^ r) ≤ 15 := by decide
  exact this r (by omega)
theorem rz_s1.rd {o d s t : Int32} (h : rz_LI o d s t) : rz_s1 (rz_rd o d s t) := by
  obtain ⟨o', d', s', t', rfl, rfl, rfl, rfl, b1, b2, b3, b4, b5⟩ := h
  unfold rz_rd
  split
  · split
    · split
      · split
        · exact ⟨0, by omega, rfl⟩
        · exact ⟨14, by omega, rfl⟩
      · exact (rz_s1.bit b2).or (rz_s1.bit b3)
    · exact rz_s1.bit b3
  · rename_i h
    have h5 : o' ≤ 5 := Nat.not_lt.mp fun q => h ((rz_lt_iff (n := 5) (by omega) (by omega)).mpr q)
    exact (rz_s1.bit b3).or (rz_s1.bit (b5 h5))
def rz_b1 (n : Nat) (f : Nat → Int32) (o : Int32) (p : Nat) : Int32 := if o = 14 ∨ o = 15 then 0 else rz_at n f (p + 1)
def rz_b2 (n : Nat) (f : Nat → Int32) (o : Int32) (t : Nat) : Int32 := if ¬ o < 12 ∧ ¬ 14 < o then rz_at n f t else 0
def rz_wr (o d : Int32) : Int32 := if 10 < o then 0 else rz_bit d
def rz_Fp (a : Nat → Nat → Int32) (n : Nat) (f : Nat → Int32) (p : Nat) : Int32 := rz_rd (a 20 p) (a 21 p) (a 22 p) (a 23 p) ||| ((rz_b1 n f (a 20 p) p ||| rz_b2 n f (a 20 p) (a 23 p).toNatClampNeg) &&& (rz_wr (a 20 p) (a 21 p) ^^^ Int32.ofInt (-1)))
theorem rz_at_sb {n k : Nat} {f f' : Nat → Int32} (h : ∀ k, rz_sb (f k) (f' k)) : rz_sb (rz_at n f k) (rz_at n f' k) := by
  unfold rz_at; split
  · exact h k
  · exact rz_sb.rf
theorem rz_Fp_sb {n p : Nat} {f f' : Nat → Int32} (h : ∀ k, rz_sb (f k) (f' k)) : rz_sb (rz_Fp a n f p) (rz_Fp a n f' p) := by
  unfold rz_Fp
  refine rz_sb.rf.or (rz_sb.and (rz_sb.or ?_ ?_))
  · unfold rz_b1; split
    · exact rz_sb.rf
    · exact rz_at_sb h
  · unfold rz_b2; split
    · exact rz_at_sb h
    · exact rz_sb.rf
theorem rz_at_s1 {n k : Nat} {f : Nat → Int32} (h : rz_sm f n) : rz_s1 (rz_at n f k) := by
  unfold rz_at; split
  · rename_i hk; exact h k hk
  · exact ⟨14, by omega, rfl⟩
theorem rz_Fp_s1 {n p : Nat} {f : Nat → Int32} (h : rz_sm f n) (hli : rz_li a p) : rz_s1 (rz_Fp a n f p) := by
  unfold rz_Fp
  refine (rz_s1.rd hli).or (rz_s1.and (rz_s1.or ?_ ?_))
  · unfold rz_b1; split
    · exact ⟨0, by omega, rfl⟩
    · exact rz_at_s1 h
  · unfold rz_b2; split
    · exact rz_at_s1 h
    · exact ⟨0, by omega, rfl⟩
def rz_ms (f : Nat → Int32) : Nat → Nat
  | 0 => 0
  | k + 1 => rz_ms f k + (15 - (f k).toNatClampNeg)
theorem rz_ms_far {f : Nat → Int32} {p : Nat} {x : Int32} : ∀ n, n ≤ p → rz_ms (upd f p x) n = rz_ms f n := by
  intro n
  induction n with
  | zero => intro _; rfl
  | succ n ih =>
    intro h
    rw [rz_ms, rz_ms, ih (by omega)]
    simp only [upd]
    rw [if_neg (by omega)]
theorem rz_ms_up {f : Nat → Int32} {p : Nat} {x : Int32} : ∀ n, p < n → rz_ms (upd f p x) n + (15 - (f p).toNatClampNeg) = rz_ms f n + (15 - x.toNatClampNeg) := by
  intro n
  induction n with
  | zero => intro h; omega
  | succ n ih =>
    intro h
    rw [rz_ms, rz_ms]
    by_cases hp : p = n
    · subst hp
      rw [rz_ms_far p (Nat.le_refl _)]
      simp only [upd, if_true]
      omega
    · have := ih (by omega)
      simp only [upd]
      rw [if_neg (by omega : ¬ n = p)]
      omega
def rz_J (a : Nat → Nat → Int32) (n : Nat) (f : Nat → Int32) : Prop := rz_sm f n ∧ ∀ p, p < n → rz_sb (f p) (rz_Fp a n f p)
theorem rz_J_step {n p : Nat} {f : Nat → Int32} (hJ : rz_J a n f) (hp : p < n) (hli : rz_li a p) : rz_J a n (upd f p (rz_Fp a n f p)) ∧ rz_ms (upd f p (rz_Fp a n f p)) n ≤ rz_ms f n ∧ (¬ rz_Fp a n f p = f p → rz_ms (upd f p (rz_Fp a n f p)) n < rz_ms f n) := by
  have hs := rz_Fp_s1 hJ.1 hli
  have hgrow : ∀ k, rz_sb (f k) (upd f p (rz_Fp a n f p) k) := fun k => by
    by_cases hk : k = p
    · simp only [upd, hk, if_true]; exact hJ.2 p hp
    · simp only [upd, hk, if_false]; exact rz_sb.rf
  obtain ⟨j, hj, ej⟩ := hs
  obtain ⟨i, hi, ei⟩ := hJ.1 p hp
  have hij : i ≤ j := rz_sb_nat hi hj (by rw [← ei, ← ej]; exact hJ.2 p hp)
  have hsum := rz_ms_up (f := f) (p := p) (x := rz_Fp a n f p) n hp
  rw [ej, ei, rz_clamp (by omega), rz_clamp (by omega)] at hsum
  rw [ej]
  refine ⟨⟨fun k hk => ?_, fun q hq => ?_⟩, by omega, fun hne => ?_⟩
  · by_cases hkp : k = p
    · exact ⟨j, hj, by simp [upd, hkp]⟩
    · obtain ⟨c, hc, ec⟩ := hJ.1 k hk
      exact ⟨c, hc, by simp [upd, hkp]; exact ec⟩
  · rw [← ej]
    by_cases hqp : q = p
    · subst hqp
      simp only [upd, if_true]
      exact rz_Fp_sb hgrow
    · have : upd f p (rz_Fp a n f p) q = f q := by simp [upd, hqp]
      rw [this]
      exact (hJ.2 q hq).tr (rz_Fp_sb hgrow)
  · have : i ≠ j := fun q => hne (by rw [ei, q])
    omega
theorem m_findLives (hmi : rz_mi v a) : rz_C xs xl 86 [.ref 25] (rz_w v a g) (fun q w' => q = .inl none ∧ ∃ f, w' = rz_w v (rz_ua a 26 f) g) := by
  obtain ⟨n, hn, hv, hrows⟩ := hmi.1
  -- one place of a sweep
  have place : ∀ (c : Int32) (p : Nat) (f : Nat → Int32) (l3 l4 l5 l6 : Option Value), p < n → (∀ (d : Int32) (l3 l4 l5 l6 : Option Value), (d = 0 ∨ d = 1) → (d = 0 → c = 0 ∧ rz_Fp a n f p = f p) → (d = 1 → ¬ c = 0 ∨ ¬ rz_Fp a n f p = f p) → rz_E xs xl 86 170 [some (.ref 25), some (.int d), some (.int (Int32.ofNat p)), l3, l4, l5, l6] [] (rz_w v (rz_ua a 26 (upd f p (rz_Fp a n f p))) g) 0 0 (fun q w' => q = .inl none ∧ ∃ f, w' = rz_w v (rz_ua a 26 f) g)) → rz_E xs xl 86 42 [some (.ref 25), some (.int c), some (.int (Int32.ofNat p)), l3, l4, l5, l6] [] (rz_w v (rz_ua a 26 f) g) 0 0 (fun q w' => q = .inl none ∧ ∃ f, w' = rz_w v (rz_ua a 26 f) g) := by
    intro c p f l3 l4 l5 l6 hp hK
    have e := rz_clamp (k := p) (by omega)
    have hin : ¬ (Int32.ofNat p < 0 ∨ 25 ≤ (Int32.ofNat p).toNatClampNeg) := rz_in (by omega) (by decide)
    obtain ⟨o', d', s', t', ho, hd, hs, ht, b1, b2, b3, b4, b5⟩ := hrows p hp
    have fin : rz_E xs xl 86 141 [some (.ref 25), some (.int c), some (.int (Int32.ofNat p)), some (.int (a 20 p)), some (.int (rz_b1 n f (a 20 p) p ||| rz_b2 n f (a 20 p) (a 23 p).toNatClampNeg)), some (.int (rz_wr (a 20 p) (a 21 p))), some (.int (rz_Fp a n f p))] [] (rz_w v (rz_ua a 26 f) g) 0 0 (fun q w' => q = .inl none ∧ ∃ f, w' = rz_w v (rz_ua a 26 f) g) := by
      have store : ∀ d : Int32, (d = 0 ∨ d = 1) → (d = 0 → c = 0 ∧ rz_Fp a n f p = f p) → (d = 1 → ¬ c = 0 ∨ ¬ rz_Fp a n f p = f p) → rz_E xs xl 86 161 [some (.ref 25), some (.int c), some (.int (Int32.ofNat p)), some (.int (a 20 p)), some (.int (rz_b1 n f (a 20 p) p ||| rz_b2 n f (a 20 p) (a 23 p).toNatClampNeg)), some (.int (rz_wr (a 20 p) (a 21 p))), some (.int (rz_Fp a n f p))] [.int d] (rz_w v (rz_ua a 26 f) g) 0 0 (fun q w' => q = .inl none ∧ ∃ f, w' = rz_w v (rz_ua a 26 f) g) := by
        intro d hd0 hd1 hd2
        refine ev_ps 5 rfl (ev_ast rfl rfl hin ?_)
        refine ev_w (w2 := rz_w v (rz_ua a 26 (upd f p (rz_Fp a n f p))) g) (by rw [e]; rfl) ?_
        exact hK d _ _ _ _ hd0 hd1 hd2
      refine ev_ps 1 rfl (ev_if (cd := .ne) rfl (fun h => ?_) (fun h => ?_))
      · exact ev_ps 2 rfl (store 1 (Or.inr rfl) (fun q => absurd q (by decide)) (fun _ => Or.inl (rc_ne_t h)))
      · refine ev_ps 4 rfl (ev_ald rfl rfl hin ?_)
        refine ev_ic (cd := .eq) rfl (fun h2 => ?_) (fun h2 => ?_)
        · refine ev_ps 1 rfl (store 0 (Or.inl rfl) (fun _ => ⟨rc_ne_f h, ?_⟩) (fun q => absurd q (by decide)))
          have := rc_eq_t h2
          rw [e] at this
          exact this
        · refine ev_ps 2 rfl (store 1 (Or.inr rfl) (fun q => absurd q (by decide)) (fun _ => Or.inr (fun q => rc_eq_f h2 ?_)))
          rw [e]
          exact q
    have s124 : ∀ x : Int32, x = rz_wr (a 20 p) (a 21 p) → rz_E xs xl 86 124 [some (.ref 25), some (.int c), some (.int (Int32.ofNat p)), some (.int (a 20 p)), some (.int (rz_b1 n f (a 20 p) p ||| rz_b2 n f (a 20 p) (a 23 p).toNatClampNeg)), l5, l6] [.int x] (rz_w v (rz_ua a 26 f) g) 0 0 (fun q w' => q = .inl none ∧ ∃ f, w' = rz_w v (rz_ua a 26 f) g) := by
      intro x hx
      subst hx
      refine ev_ps 3 rfl (ev_call (av := [_, _]) rfl rfl rfl rfl ⟨Nat.le_of_ble_eq_true rfl, rfl⟩ ⟨Nat.le_of_ble_eq_true rfl, Nat.le_of_ble_eq_true rfl⟩ (m_reads (by omega)) ?_)
      rintro _ _ ⟨rfl, rfl⟩
      exact ev_ps 7 rfl fin
    have s102 : ∀ x : Int32, x = rz_b2 n f (a 20 p) (a 23 p).toNatClampNeg → rz_E xs xl 86 102 [some (.ref 25), some (.int c), some (.int (Int32.ofNat p)), some (.int (a 20 p)), some (.int (rz_b1 n f (a 20 p) p)), l5, l6] [.int x, .int (rz_b1 n f (a 20 p) p)] (rz_w v (rz_ua a 26 f) g) 0 0 (fun q w' => q = .inl none ∧ ∃ f, w' = rz_w v (rz_ua a 26 f) g) := by
      intro x hx
      subst hx
      refine ev_ps 4 rfl (ev_ic (cd := .gt) rfl (fun h => ?_) (fun h => ?_))
      · exact ev_ps 1 rfl (s124 0 (by unfold rz_wr; exact (if_pos (rc_gt_t h)).symm))
      · refine ev_ps 3 rfl (ev_ald rfl rfl hin ?_)
        rw [show (rz_ua a 26 f) 21 = a 21 from rfl, e]
        refine ev_call (av := [_]) rfl rfl rfl rfl ⟨Nat.le_of_ble_eq_true rfl, rfl⟩ ⟨Nat.le_of_ble_eq_true rfl, Nat.le_of_ble_eq_true rfl⟩ (m_bit _) ?_
        rintro _ _ ⟨rfl, rfl⟩
        exact ev_ps 1 rfl (s124 _ (by unfold rz_wr; exact (if_neg (rc_gt_f h)).symm))
    have s72 : ∀ (x : Int32) (l4 : Option Value), x = rz_b1 n f (a 20 p) p → rz_E xs xl 86 72 [some (.ref 25), some (.int c), some (.int (Int32.ofNat p)), some (.int (a 20 p)), l4, l5, l6] [.int x] (rz_w v (rz_ua a 26 f) g) 0 0 (fun q w' => q = .inl none ∧ ∃ f, w' = rz_w v (rz_ua a 26 f) g) := by
      intro x l4 hx
      subst hx
      refine ev_ps 4 rfl (ev_ic (cd := .lt) rfl (fun h => ?_) (fun h => ?_))
      · exact ev_ps 1 rfl (s102 0 (by unfold rz_b2; exact (if_neg (fun q => q.1 (rc_lt_t h))).symm))
      · refine ev_ps 2 rfl (ev_ic (cd := .gt) rfl (fun h2 => ?_) (fun h2 => ?_))
        · exact ev_ps 1 rfl (s102 0 (by unfold rz_b2; exact (if_neg (fun q => q.2 (rc_gt_t h2))).symm))
        · refine ev_ps 4 rfl (ev_ald rfl rfl hin ?_)
          rw [show (rz_ua a 26 f) 23 = a 23 from rfl, e, ht]
          refine ev_call (av := [_, _]) rfl rfl rfl rfl ⟨Nat.le_of_ble_eq_true rfl, rfl⟩ ⟨Nat.le_of_ble_eq_true rfl, Nat.le_of_ble_eq_true rfl⟩ (m_livesAt hv hn b4) ?_
          rintro _ _ ⟨rfl, rfl⟩
          exact ev_ps 1 rfl (s102 _ (by unfold rz_b2; rw [ht, rz_clamp (by omega)]; exact (if_pos ⟨rc_lt_f h, rc_gt_f h2⟩).symm))
    refine ev_ps 3 rfl (ev_ald rfl rfl hin ?_)
    rw [show (rz_ua a 26 f) 20 = a 20 from rfl, e]
    refine ev_ps 3 rfl (ev_ic (cd := .eq) rfl (fun h => ?_) (fun h => ?_))
    · exact ev_ps 2 rfl (s72 0 _ (by unfold rz_b1; exact (if_pos (Or.inl (rc_eq_t h))).symm))
    · refine ev_ps 2 rfl (ev_ic (cd := .ne) rfl (fun h2 => ?_) (fun h2 => ?_))
      · refine ev_ps 4 rfl ?_
        refine ev_call (av := [.ref 25, .int (Int32.ofNat (p + 1))]) rfl (by rw [← rz_succ]; rfl) rfl rfl ⟨Nat.le_of_ble_eq_true rfl, rfl⟩ ⟨Nat.le_of_ble_eq_true rfl, Nat.le_of_ble_eq_true rfl⟩ (m_livesAt hv hn (by omega)) ?_
        rintro _ _ ⟨rfl, rfl⟩
        exact s72 _ _ (by unfold rz_b1; exact (if_neg (fun q => q.elim (rc_eq_f h) (rc_ne_t h2))).symm)
      · exact ev_ps 2 rfl (s72 0 _ (by unfold rz_b1; exact (if_pos (Or.inr (rc_ne_f h2))).symm))
  -- a sweep
  have sweep : ∀ (c : Int32) (f : Nat → Int32) (l2 l3 l4 l5 l6 : Option Value), (c = 0 ∨ c = 1) → rz_J a n f → rz_E xs xl 86 25 [some (.ref 25), some (.int c), l2, l3, l4, l5, l6] [] (rz_w v (rz_ua a 26 f) g) 0 0 (fun q w' => q = .inl none ∧ ∃ f, w' = rz_w v (rz_ua a 26 f) g) := by
    intro c f l2 l3 l4 l5 l6 hc hJ
    refine ev_loop (α := Int32 × Option Value × Option Value × Option Value × Option Value × Option Value × (Nat → Int32)) (fun r => 2 * rz_ms r.2.2.2.2.2.2 n + (if r.1 = 1 then 1 else 0)) (fun r => (r.1 = 0 ∨ r.1 = 1) ∧ rz_J a n r.2.2.2.2.2.2) (fun r => [some (.ref 25), some (.int r.1), r.2.1, r.2.2.1, r.2.2.2.1, r.2.2.2.2.1, r.2.2.2.2.2.1]) (fun _ => []) (fun r => rz_w v (rz_ua a 26 r.2.2.2.2.2.2) g) ?_ (c, l2, l3, l4, l5, l6, f) ⟨hc, hJ⟩
    rintro ⟨c, l2, l3, l4, l5, l6, f0⟩ ⟨hc, hJ⟩ ih
    dsimp only at hc hJ ih ⊢
    refine ev_ps 1 rfl (ev_if (cd := .eq) rfl (fun h => ?_) (fun h => ?_))
    · exact ev_ret rfl rfl ⟨rfl, f0, rfl⟩
    · have hc1 : c = 1 := hc.resolve_left (rc_eq_f h)
      rw [if_pos hc1] at ih
      refine ev_ps 7 rfl ?_
      refine ev_l (L2 := [some (.ref 25), some (.int 0), some (.int (Int32.ofNat n - 1)), l3, l4, l5, l6]) (by rw [← hv]; rfl) ?_
      refine ev_loop (α := Nat × Int32 × Option Value × Option Value × Option Value × Option Value × (Nat → Int32)) (fun r => r.1) (fun r => r.1 ≤ n ∧ (r.2.1 = 0 ∨ r.2.1 = 1) ∧ rz_J a n r.2.2.2.2.2.2 ∧ rz_ms r.2.2.2.2.2.2 n ≤ rz_ms f0 n ∧ (r.2.1 = 1 → rz_ms r.2.2.2.2.2.2 n < rz_ms f0 n)) (fun r => [some (.ref 25), some (.int r.2.1), some (.int (Int32.ofNat r.1 - 1)), r.2.2.1, r.2.2.2.1, r.2.2.2.2.1, r.2.2.2.2.2.1]) (fun _ => []) (fun r => rz_w v (rz_ua a 26 r.2.2.2.2.2.2) g) ?_ (n, 0, l3, l4, l5, l6, f0) ⟨Nat.le_refl _, Or.inl rfl, hJ, Nat.le_refl _, fun q => absurd (show (0 : Int32) = 1 from q) (by decide)⟩
      rintro ⟨k, c2, l3, l4, l5, l6, f⟩ ⟨hk, hc2, hJ2, hm1, hm2⟩ ih2
      dsimp only at hk hc2 hJ2 hm1 hm2 ih2 ⊢
      refine ev_ps 1 rfl (ev_if (cd := .lt) rfl (fun h => ?_) (fun h => ?_))
      · have h9 := ih (c2, some (.int (Int32.ofNat k - 1)), l3, l4, l5, l6, f) ⟨hc2, hJ2⟩ (by
          show 2 * rz_ms f n + (if c2 = 1 then 1 else 0) < 2 * rz_ms f0 n + 1
          rcases hc2 with h0 | h1
          · rw [h0, if_neg (by decide)]; omega
          · rw [if_pos h1]; have := hm2 h1; omega)
        exact ev_ps 1 rfl h9
      · have hk0 : 0 < k := by
          rcases Nat.eq_zero_or_pos k with rfl | h0
          · exact absurd (by decide : Int32.ofNat 0 - 1 < 0) (rc_lt_f h)
          · exact h0
        rw [show Int32.ofNat k - 1 = Int32.ofNat (k - 1) from rz_sub (n := 1) hk0]
        refine place c2 (k - 1) f l3 l4 l5 l6 (by omega) (fun d l3 l4 l5 l6 hd hd0 hd1 => ?_)
        obtain ⟨j1, j2, j3⟩ := rz_J_step hJ2 (show k - 1 < n by omega) (hrows (k - 1) (by omega))
        have h9 := ih2 (k - 1, d, l3, l4, l5, l6, upd f (k - 1) (rz_Fp a n f (k - 1))) ⟨by show k - 1 ≤ n; omega, hd, j1, Nat.le_trans j2 hm1, fun q => by
          rcases hd1 q with h1 | h1
          · exact Nat.lt_of_le_of_lt j2 (hm2 (hc2.resolve_left h1))
          · exact Nat.lt_of_lt_of_le (j3 h1) hm1⟩ (by show k - 1 < k; omega)
        dsimp only at h9
        rw [show Int32.ofNat (k - 1) - 1 = Int32.ofNat (k - 1) + Int32.ofInt (-1) from Int32.sub_eq_add_neg _ _] at h9
        exact ev_ps 2 rfl h9
  refine ev_ps 2 rfl (ev_w (w2 := rz_w v (rz_ua a 26 (a 26)) g) rfl ?_)
  refine ev_loop (α := Nat × (Nat → Int32)) (fun r => n - r.1) (fun r => r.1 ≤ n ∧ ∀ j, j < r.1 → r.2 j = 0) (fun r => [some (.ref 25), some (.int (Int32.ofNat r.1)), none, none, none, none, none]) (fun _ => []) (fun r => rz_w v (rz_ua a 26 r.2) g) ?_ (0, a 26) ⟨Nat.zero_le _, fun j hj => absurd hj (by omega)⟩
  rintro ⟨k, f⟩ ⟨hk, hf⟩ ih
  dsimp only at hk hf ih ⊢
  refine ev_ps 3 rfl (ev_ic (cd := .ge) rfl (fun h => ?_) (fun h => ?_))
  · have h' : rz_cmp .ge (Int32.ofNat k) (v 21) = true := h
    rw [hv] at h'
    have hkn : n ≤ k := rn_ge_t (by omega) (by omega) h'
    refine ev_ps 2 rfl (sweep 1 f _ _ _ _ _ (Or.inr rfl) ⟨fun j hj => ⟨0, by omega, hf j (by omega)⟩, fun p hp => ?_⟩)
    rw [hf p (by omega)]
    exact rz_sb.zero
  · have h' : rz_cmp .ge (Int32.ofNat k) (v 21) = false := h
    rw [hv] at h'
    have hk' : k < n := rn_ge_f (by omega) (by omega) h'
    refine ev_ps 4 rfl (ev_ast rfl rfl (rz_in (by omega) (by decide)) ?_)
    have h9 := ih (k + 1, upd f k 0) ⟨by show k + 1 ≤ n; omega, fun j hj => by
      by_cases hjk : j = k
      · simp [upd, hjk]
      · simp [upd, hjk]; exact hf j (by have : j < k + 1 := hj; omega)⟩ (by show n - (k + 1) < n - k; omega)
    dsimp only at h9
    rw [← rz_succ k] at h9
    exact ev_w (w2 := rz_w v (rz_ua a 26 (upd f k 0)) g) (by rw [rz_clamp (by omega)]; rfl) (ev_ps 2 rfl h9)
theorem m_live (hmi : rz_mi v a) (x : Int32) : rz_C xs xl 85 [.ref 25, .int x] (rz_w v a g) (rz_mp v a g rz_pi) := by
  refine ev_ps 5 rfl (ev_call (av := [_, _, _]) rfl rfl rfl rfl ⟨Nat.le_of_ble_eq_true rfl, rfl⟩ ⟨Nat.le_of_ble_eq_true rfl, Nat.le_of_ble_eq_true rfl⟩ (m_in _ _ _) ?_)
  rintro _ _ ⟨⟨u2, h2, rfl⟩, rfl⟩
  refine ev_if (cd := .eq) rfl (fun e2 => ?_) (fun e2 => ?_)
  · refine ev_ps 2 rfl (ev_w (w2 := rz_w (rz_up v 20 1) a g) rfl ?_)
    refine ev_ps 2 rfl (ev_if (cd := .eq) rfl (fun h => absurd (rc_eq_t h) (show ¬ (1 : Int32) = 0 by decide)) (fun h => ?_))
    exact ev_ps 1 rfl (ev_ret rfl rfl ⟨⟨_, rfl⟩, _, _, rfl, rz_mf.rf.up (by omega) _, hmi⟩)
  · obtain ⟨-, y0, y1⟩ := h2.resolve_right (fun q => rc_eq_f e2 q.1)
    obtain ⟨n, hn, hv, hrows⟩ := hmi.1
    have y1' : ¬ v 21 < x := y1
    rw [hv] at y1'
    obtain ⟨k, hk, rfl⟩ := rz_le_nat (by omega) y0 y1'
    refine ev_ps 3 rfl (ev_w (w2 := rz_w (rz_up v 20 0) a g) rfl ?_)
    refine ev_ps 2 rfl (ev_if (cd := .eq) rfl (fun h => ?_) (fun h => absurd rfl (rc_eq_f h)))
    refine ev_ps 1 rfl (ev_call (av := [_]) rfl rfl rfl rfl ⟨Nat.le_of_ble_eq_true rfl, rfl⟩ ⟨Nat.le_of_ble_eq_true rfl, Nat.le_of_ble_eq_true rfl⟩ (m_findLives (v := rz_up v 20 0) hmi) ?_)
    rintro _ _ ⟨rfl, f, rfl⟩
    refine ev_ps 2 rfl (ev_call (av := [_, _]) rfl rfl rfl rfl ⟨Nat.le_of_ble_eq_true rfl, rfl⟩ ⟨Nat.le_of_ble_eq_true rfl, Nat.le_of_ble_eq_true rfl⟩ (m_livesAt (v := rz_up v 20 0) hv hn (by omega)) ?_)
    rintro _ _ ⟨rfl, rfl⟩
    exact ev_ret rfl rfl ⟨⟨_, rfl⟩, _, _, rfl, (rz_mf.rf.up (by omega) _).ua (by omega) _, hmi⟩
end RZM4
