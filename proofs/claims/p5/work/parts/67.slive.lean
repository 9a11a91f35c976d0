/-! which registers live: sweeps over the program, and where they end -/
section RZSL
variable {a A : Nat → Nat → Int32} {R : Nat → rz_Q} {n p : Nat} {f f' : Nat → Int32}
def rz_fam (R : Nat → rz_Q) : Nat → Nat → Int32 := fun i k => if i = 20 then Int32.ofNat (R k).1 else if i = 21 then Int32.ofNat (R k).2.1 else if i = 22 then Int32.ofNat (R k).2.2.1 else Int32.ofNat (R k).2.2.2
def rz_pr (a : Nat → Nat → Int32) (R : Nat → rz_Q) (n : Nat) : Prop := ∀ k, k < n → a 20 k = Int32.ofNat (R k).1 ∧ a 21 k = Int32.ofNat (R k).2.1 ∧ a 22 k = Int32.ofNat (R k).2.2.1 ∧ a 23 k = Int32.ofNat (R k).2.2.2
def rz_pc (a : Nat → Nat → Int32) (R : Nat → rz_Q) (n : Nat) : Prop := ∀ k, k < n → a 0 k = rz_pk (R k)
def rz_lgs (R : Nat → rz_Q) (n : Nat) : Prop := ∀ k, k < n → rz_lg (R k)
theorem rz_fam_li {k : Nat} (h : rz_lg (R k)) : rz_li (rz_fam R) k := ⟨_, _, _, _, rfl, rfl, rfl, rfl, h.1, h.2.1, h.2.2.1, h.2.2.2.1, h.2.2.2.2⟩
theorem rz_pr_li {k : Nat} (hp : rz_pr a R n) (hl : rz_lgs R n) (hk : k < n) : rz_li a k := by
  obtain ⟨e1, e2, e3, e4⟩ := hp k hk
  have h := hl k hk
  exact ⟨_, _, _, _, e1, e2, e3, e4, h.1, h.2.1, h.2.2.1, h.2.2.2.1, h.2.2.2.2⟩
theorem rz_Fp_pr (hp : rz_pr a R n) (hk : p < n) : rz_Fp a n f p = rz_Fp (rz_fam R) n f p := by
  obtain ⟨e1, e2, e3, e4⟩ := hp p hk
  unfold rz_Fp
  rw [e1, e2, e3, e4]
  rfl
theorem rz_at_cg {k : Nat} (h : ∀ k, k < n → f k = f' k) : rz_at n f k = rz_at n f' k := by
  unfold rz_at; split
  · rename_i hk; exact h k hk
  · rfl
theorem rz_Fp_cg (h : ∀ k, k < n → f k = f' k) : rz_Fp A n f p = rz_Fp A n f' p := by
  have e : ∀ k, rz_at n f k = rz_at n f' k := fun k => rz_at_cg h
  unfold rz_Fp rz_b1 rz_b2
  simp only [e]
def rz_sw (A : Nat → Nat → Int32) (n : Nat) : Nat → (Nat → Int32) → Nat → Int32
  | 0, f => f
  | k + 1, f => rz_sw A n k (upd f k (rz_Fp A n f k))
def rz_it (A : Nat → Nat → Int32) (n : Nat) : Nat → Nat → Int32
  | 0 => fun _ => 0
  | j + 1 => rz_sw A n n (rz_it A n j)
def rz_p3 (x : Int32) : Nat := (if x &&& 2 = 0 then 1 else 0) + (if x &&& 4 = 0 then 1 else 0) + (if x &&& 8 = 0 then 1 else 0)
def rz_mz (f : Nat → Int32) : Nat → Nat
  | 0 => 0
  | k + 1 => rz_mz f k + rz_p3 (f k)
theorem rz_mz_far {x : Int32} : ∀ n, n ≤ p → rz_mz (upd f p x) n = rz_mz f n := by
  intro n
  induction n with
  | zero => intro _; rfl
  | succ n ih =>
    intro h
    rw [rz_mz, rz_mz, ih (by omega)]
    simp only [upd]
    rw [if_neg (by omega)]
theorem rz_mz_up {x : Int32} : ∀ n, p < n → rz_mz (upd f p x) n + rz_p3 (f p) = rz_mz f n + rz_p3 x := by
  intro n
  induction n with
  | zero => intro h; omega
  | succ n ih =>
    intro h
    rw [rz_mz, rz_mz]
    by_cases hp : p = n
    · subst hp
      rw [rz_mz_far p (Nat.le_refl _)]
      simp only [upd, if_true]
      omega
    · have := ih (by omega)
      simp only [upd]
      rw [if_neg (by omega : ¬ n = p)]
      omega
theorem rz_sb.of {x y : Int32} (h : x &&& y = x) : rz_sb x y := fun i q => by
  rw [← h, Int32.toBitVec_and, BitVec.getLsbD_and, Bool.and_eq_true] at q
  exact q.2
theorem rz_14 {x : Int32} (h : rz_sb x 14) : ∃ i, i < 16 ∧ x = Int32.ofNat i ∧ Int32.ofNat i &&& 14 = Int32.ofNat i := by
  obtain ⟨k, hk, e⟩ := rz_mask x 14 (by decide)
  have e2 : x = Int32.ofNat k := h.eq.symm.trans e
  exact ⟨k, by omega, e2, by rw [← e2]; exact h.eq⟩
theorem rz_p3_sb {x y : Int32} (hx : rz_sb x 14) (hy : rz_sb y 14) (h : rz_sb x y) : rz_p3 y ≤ rz_p3 x ∧ (¬ y = x → rz_p3 y < rz_p3 x) := by
  obtain ⟨i, hi, rfl, ei⟩ := rz_14 hx
  obtain ⟨j, hj, rfl, ej⟩ := rz_14 hy
  have key : (List.range 16).all (fun i => (List.range 16).all (fun j => !(decide (Int32.ofNat i &&& 14 = Int32.ofNat i) && decide (Int32.ofNat j &&& 14 = Int32.ofNat j) && decide (Int32.ofNat i &&& Int32.ofNat j = Int32.ofNat i)) || (decide (rz_p3 (Int32.ofNat j) ≤ rz_p3 (Int32.ofNat i)) && (decide (Int32.ofNat j = Int32.ofNat i) || decide (rz_p3 (Int32.ofNat j) < rz_p3 (Int32.ofNat i)))))) = true := by decide +kernel
  have h1 := List.all_eq_true.mp (List.all_eq_true.mp key i (List.mem_range.mpr hi)) j (List.mem_range.mpr hj)
  rw [decide_eq_true ei, decide_eq_true ej, decide_eq_true h.eq] at h1
  simp only [Bool.and_true, Bool.not_true, Bool.false_or, Bool.and_eq_true, Bool.or_eq_true, decide_eq_true_eq] at h1
  exact ⟨h1.1, fun hne => h1.2.resolve_left hne⟩
theorem rz_bit14 {r : Nat} (hr : r ≤ 3) : rz_sb (rz_bit (Int32.ofNat r)) 14 := by
  have key : ∀ r, r < 4 → rz_bit (Int32.ofNat r) &&& 14 = rz_bit (Int32.ofNat r) := by decide +kernel
  exact rz_sb.of (key r (by omega))
theorem rz_sb.or14 {x y : Int32} (hx : rz_sb x 14) (hy : rz_sb y 14) : rz_sb (x ||| y) 14 := hx.or hy
theorem rz_sb.and14 {x c : Int32} (hx : rz_sb x 14) : rz_sb (x &&& c) 14 := fun i q => by
  rw [Int32.toBitVec_and, BitVec.getLsbD_and, Bool.and_eq_true] at q
  exact hx i q.1
theorem rz_rd14 {o d s t : Int32} (h : rz_LI o d s t) : rz_sb (rz_rd o d s t) 14 := by
  obtain ⟨o', d', s', t', rfl, rfl, rfl, rfl, b1, b2, b3, b4, b5⟩ := h
  unfold rz_rd
  split
  · split
    · split
      · split
        · exact rz_sb.zero
        · exact rz_sb.rf
      · exact (rz_bit14 b2).or14 (rz_bit14 b3)
    · exact rz_bit14 b3
  · rename_i h
    have h5 : o' ≤ 5 := Nat.not_lt.mp fun q => h ((rz_lt_iff (n := 5) (by omega) (by omega)).mpr q)
    exact (rz_bit14 b3).or14 (rz_bit14 (b5 h5))
theorem rz_at14 {k : Nat} (h : ∀ p, p < n → rz_sb (f p) 14) : rz_sb (rz_at n f k) 14 := by
  unfold rz_at; split
  · rename_i hk; exact h k hk
  · exact rz_sb.rf
theorem rz_b114 {o : Int32} (h : ∀ p, p < n → rz_sb (f p) 14) : rz_sb (rz_b1 n f o p) 14 := by
  unfold rz_b1; split
  · exact rz_sb.zero
  · exact rz_at14 h
theorem rz_b214 {o : Int32} {t : Nat} (h : ∀ p, p < n → rz_sb (f p) 14) : rz_sb (rz_b2 n f o t) 14 := by
  unfold rz_b2; split
  · exact rz_at14 h
  · exact rz_sb.zero
theorem rz_Fp14 (h : ∀ p, p < n → rz_sb (f p) 14) (hli : rz_li A p) : rz_sb (rz_Fp A n f p) 14 :=
  (rz_rd14 hli).or14 (rz_sb.and14 ((rz_b114 h).or14 (rz_b214 h)))
def rz_K (A : Nat → Nat → Int32) (n : Nat) (f : Nat → Int32) : Prop := (∀ p, p < n → rz_sb (f p) 14) ∧ ∀ p, p < n → rz_sb (f p) (rz_Fp A n f p)
theorem rz_K_step (hK : rz_K A n f) (hp : p < n) (hli : rz_li A p) : rz_K A n (upd f p (rz_Fp A n f p)) ∧ rz_mz (upd f p (rz_Fp A n f p)) n ≤ rz_mz f n ∧ (¬ rz_Fp A n f p = f p → rz_mz (upd f p (rz_Fp A n f p)) n < rz_mz f n) := by
  have hs : rz_sb (rz_Fp A n f p) 14 := rz_Fp14 hK.1 hli
  have hgrow : ∀ k, rz_sb (f k) (upd f p (rz_Fp A n f p) k) := fun k => by
    by_cases hk : k = p
    · simp only [upd, hk, if_true]; exact hK.2 p hp
    · simp only [upd, hk, if_false]; exact rz_sb.rf
  have hsum := rz_mz_up (f := f) (p := p) (x := rz_Fp A n f p) n hp
  obtain ⟨h1, h2⟩ := rz_p3_sb (hK.1 p hp) hs (hK.2 p hp)
  refine ⟨⟨fun k hk => ?_, fun q hq => ?_⟩, by omega, fun hne => ?_⟩
  · by_cases hkp : k = p
    · simp only [upd, hkp, if_true]; exact hs
    · simp only [upd, hkp, if_false]; exact hK.1 k hk
  · by_cases hqp : q = p
    · subst hqp
      simp only [upd, if_true]
      exact rz_Fp_sb hgrow
    · have : upd f p (rz_Fp A n f p) q = f q := by simp [upd, hqp]
      rw [this]
      exact (hK.2 q hq).tr (rz_Fp_sb hgrow)
  · have := h2 hne
    omega
theorem rz_upd_self {k : Nat} {x : Int32} (h : x = f k) : upd f k x = f := by
  funext j
  by_cases hj : j = k
  · simp [upd, hj, h]
  · simp [upd, hj]
theorem rz_sw_K (hli : ∀ p, p < n → rz_li A p) : ∀ k, k ≤ n → ∀ f, rz_K A n f → rz_K A n (rz_sw A n k f) ∧ rz_mz (rz_sw A n k f) n ≤ rz_mz f n ∧ (rz_mz (rz_sw A n k f) n = rz_mz f n → rz_sw A n k f = f) := by
  intro k
  induction k with
  | zero => intro _ f hK; exact ⟨hK, Nat.le_refl _, fun _ => rfl⟩
  | succ k ih =>
    intro hk f hK
    obtain ⟨s1, s2, s3⟩ := rz_K_step hK (show k < n by omega) (hli k (by omega))
    obtain ⟨i1, i2, i3⟩ := ih (by omega) _ s1
    refine ⟨i1, Nat.le_trans i2 s2, fun he => ?_⟩
    have he' : rz_mz (rz_sw A n k (upd f k (rz_Fp A n f k))) n = rz_mz f n := he
    have e1 : rz_Fp A n f k = f k := Classical.byContradiction fun hne => by have := s3 hne; omega
    have e2 : upd f k (rz_Fp A n f k) = f := rz_upd_self e1
    have e3 := i3 (by omega)
    show rz_sw A n k (upd f k (rz_Fp A n f k)) = f
    rw [e3, e2]
theorem rz_it_K (hli : ∀ p, p < n → rz_li A p) : ∀ j, rz_K A n (rz_it A n j) := by
  intro j
  induction j with
  | zero => exact ⟨fun _ _ => rz_sb.zero, fun _ _ => rz_sb.zero⟩
  | succ j ih => exact (rz_sw_K hli n (Nat.le_refl _) _ ih).1
theorem rz_mz_0 : ∀ n, rz_mz (fun _ => 0) n = 3 * n := by
  intro n
  induction n with
  | zero => rfl
  | succ n ih => rw [rz_mz, ih, show rz_p3 0 = 3 by decide]; omega
theorem rz_it_m (hli : ∀ p, p < n → rz_li A p) : ∀ j, rz_mz (rz_it A n j) n + j ≤ 3 * n ∨ ∃ i, i < j ∧ rz_sw A n n (rz_it A n i) = rz_it A n i := by
  intro j
  induction j with
  | zero => exact Or.inl (by rw [rz_it, rz_mz_0]; omega)
  | succ j ih =>
    rcases ih with h | ⟨i, hi, h⟩
    · obtain ⟨-, i2, i3⟩ := rz_sw_K hli n (Nat.le_refl _) _ (rz_it_K hli j)
      by_cases he : rz_mz (rz_sw A n n (rz_it A n j)) n = rz_mz (rz_it A n j) n
      · exact Or.inr ⟨j, by omega, i3 he⟩
      · refine Or.inl ?_
        show rz_mz (rz_sw A n n (rz_it A n j)) n + (j + 1) ≤ 3 * n
        omega
    · exact Or.inr ⟨i, by omega, h⟩
theorem rz_it_st {i : Nat} (h : rz_sw A n n (rz_it A n i) = rz_it A n i) : ∀ d, rz_it A n (i + d) = rz_it A n i := by
  intro d
  induction d with
  | zero => rfl
  | succ d ih =>
    show rz_sw A n n (rz_it A n (i + d)) = rz_it A n i
    rw [ih, h]
theorem rz_it_72 (hli : ∀ p, p < n → rz_li A p) (hn : n ≤ 24) : rz_sw A n n (rz_it A n 72) = rz_it A n 72 := by
  rcases rz_it_m hli 73 with h | ⟨i, hi, h⟩
  · omega
  · have e := rz_it_st h (72 - i)
    rw [show i + (72 - i) = 72 by omega] at e
    rw [e]; exact h
theorem rz_it_eq (hli : ∀ p, p < n → rz_li A p) (hn : n ≤ 24) {j : Nat} (h : rz_sw A n n (rz_it A n j) = rz_it A n j) : rz_it A n j = rz_it A n 72 := by
  by_cases hj : j ≤ 72
  · have e := rz_it_st h (72 - j)
    rw [show j + (72 - j) = 72 by omega] at e
    exact e.symm
  · have e := rz_it_st (rz_it_72 hli hn) (j - 72)
    rw [show 72 + (j - 72) = j by omega] at e
    exact e
/-- which registers live before the places of a program -/
def rz_lv (R : Nat → rz_Q) (n : Nat) : Nat → Int32 := rz_it (rz_fam R) n 72
theorem rz_lv14 (hl : rz_lgs R n) (k : Nat) : rz_sb (rz_at n (rz_lv R n) k) 14 := rz_at14 (rz_it_K (fun p hp => rz_fam_li (hl p hp)) 72).1
end RZSL
