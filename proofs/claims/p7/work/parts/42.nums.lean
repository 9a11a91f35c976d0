/-! small numbers as ints -/
theorem rz_toInt {n : Nat} (h : n < 2 ^ 31) : (Int32.ofNat n).toInt = (n : Int) := by
  first
    | exact Int32.toInt_ofNat_of_lt h
    | exact Int32.toInt_ofNat' (by omega)
    | (rw [Int32.toInt_ofNat]; omega)
theorem rz_lt_iff {n k : Nat} (hn : n < 2 ^ 31) (hk : k < 2 ^ 31) : Int32.ofNat n < Int32.ofNat k ↔ n < k := by
  rw [Int32.lt_iff_toInt_lt, rz_toInt hn, rz_toInt hk]; omega
theorem rz_le_iff {n k : Nat} (hn : n < 2 ^ 31) (hk : k < 2 ^ 31) : Int32.ofNat n ≤ Int32.ofNat k ↔ n ≤ k := by
  rw [Int32.le_iff_toInt_le, rz_toInt hn, rz_toInt hk]; omega
theorem rz_eq_iff {n k : Nat} (hn : n < 2 ^ 31) (hk : k < 2 ^ 31) : Int32.ofNat n = Int32.ofNat k ↔ n = k := by
  constructor
  · intro h
    have := congrArg Int32.toInt h
    rw [rz_toInt hn, rz_toInt hk] at this
    omega
  · rintro rfl; rfl
theorem rz_nat {x : Int32} (h0 : ¬ x < 0) : ∃ k : Nat, k < 2 ^ 31 ∧ x = Int32.ofNat k := by
  have h1 : (0 : Int) ≤ x.toInt := by
    rw [Int32.lt_iff_toInt_lt] at h0
    have : (0 : Int32).toInt = 0 := rfl
    omega
  have h2 : x.toInt < 2 ^ 31 := Int32.toInt_lt x
  refine ⟨x.toInt.toNat, by omega, ?_⟩
  apply Int32.toInt_inj.mp
  rw [rz_toInt (by omega)]
  omega
theorem rz_idx {x : Int32} {n : Nat} (hn : n < 2 ^ 31) (h0 : ¬ x < 0) (h1 : x < Int32.ofNat n) : ∃ k, k < n ∧ x = Int32.ofNat k := by
  obtain ⟨k, hk, rfl⟩ := rz_nat h0
  exact ⟨k, (rz_lt_iff hk hn).mp h1, rfl⟩
theorem rz_clamp {k : Nat} (h : k < 2 ^ 31) : (Int32.ofNat k).toNatClampNeg = k := by
  rw [Int32.toNatClampNeg, rz_toInt h]; omega
theorem rz_in {k n : Nat} (hk : k < n) (hn : n < 2 ^ 31) : ¬ (Int32.ofNat k < 0 ∨ n ≤ (Int32.ofNat k).toNatClampNeg) := by
  rw [rz_clamp (by omega)]
  rintro (h | h)
  · have : ¬ Int32.ofNat k < Int32.ofNat 0 := by rw [rz_lt_iff (by omega) (by omega)]; omega
    exact this h
  · omega
theorem rz_succ (k : Nat) : Int32.ofNat k + 1 = Int32.ofNat (k + 1) := (Int32.ofNat_add k 1).symm
theorem rz_add (k n : Nat) : Int32.ofNat k + Int32.ofNat n = Int32.ofNat (k + n) := (Int32.ofNat_add k n).symm
theorem rz_sub {k n : Nat} (h : n ≤ k) : Int32.ofNat k - Int32.ofNat n = Int32.ofNat (k - n) := by
  have : Int32.ofNat k = Int32.ofNat (k - n) + Int32.ofNat n := by rw [rz_add]; congr 1; omega
  rw [this, Int32.add_sub_cancel]
theorem rz_mask (c : Int32) (b : Nat) (hb : b < 2 ^ 31) : ∃ k, k ≤ b ∧ c &&& Int32.ofNat b = Int32.ofNat k := by
  refine ⟨(c.toBitVec &&& BitVec.ofNat 32 b).toNat, ?_, ?_⟩
  · rw [BitVec.toNat_and, BitVec.toNat_ofNat, Nat.mod_eq_of_lt (by omega)]
    exact Nat.and_le_right
  · apply Int32.toBitVec_inj.mp
    rw [Int32.toBitVec_and]
    show c.toBitVec &&& BitVec.ofNat 32 b = BitVec.ofNat 32 _
    rw [BitVec.ofNat_toNat]
    simp
theorem ev_loop {xs : Nat → Int32} {xl M pc kc ks : Nat} {post : rz_R → rz_W → Prop} {α : Type} (mu : α → Nat) (Inv : α → Prop) (L : α → rz_L) (S : α → List Value) (Wd : α → rz_W)
    (step : ∀ x, Inv x → (∀ y, Inv y → mu y < mu x → rz_E xs xl M pc (L y) (S y) (Wd y) kc ks post) → rz_E xs xl M pc (L x) (S x) (Wd x) kc ks post) : ∀ x, Inv x → rz_E xs xl M pc (L x) (S x) (Wd x) kc ks post := by
  have key : ∀ n x, mu x < n → Inv x → rz_E xs xl M pc (L x) (S x) (Wd x) kc ks post := by
    intro n
    induction n with
    | zero => intro x h; omega
    | succ n ih => intro x h hi; exact step x hi (fun y hy hlt => ih y (by omega) hy)
  exact fun x hi => key (mu x + 1) x (by omega) hi
section RZS
variable {xs : Nat → Int32} {xl M pc : Nat} {L : rz_L} {st : List Value} {w : rz_W} {kc ks : Nat} {post : rz_R → rz_W → Prop}
theorem ev_tsw {d lo hi : Int} {offs : Array Int} {len x y z : Nat} {v : Int32} (hc : rz_code M pc = some (0, .tableswitch d lo hi offs, len, x, y, z)) (kk : ∀ t, t ∈ (d :: offs.toList).map (rz_tg pc) → rz_E xs xl M t L st w kc ks post) : rz_E xs xl M pc L (.int v :: st) w kc ks post := by
  refine ev_p hc rfl (kk _ ?_)
  split
  · exact List.mem_cons_self
  · rw [List.map_cons]
    by_cases h : (v.toInt - lo).toNat < offs.size
    · refine List.mem_cons_of_mem _ (List.mem_map.mpr ⟨offs[(v.toInt - lo).toNat], Array.mem_toList_iff.mpr (Array.getElem_mem h), ?_⟩)
      simp [Array.getD, h]
    · have : offs.getD (v.toInt - lo).toNat d = d := by simp [Array.getD, h]
      rw [this]
      exact List.mem_cons_self
theorem ev_lsw {d : Int} {ps : Array (Int × Int)} {len x y z : Nat} {v : Int32} (hc : rz_code M pc = some (0, .lookupswitch d ps, len, x, y, z)) (kk : ∀ t, t ∈ (d :: ps.toList.map (fun q => q.2)).map (rz_tg pc) → rz_E xs xl M t L st w kc ks post) : rz_E xs xl M pc L (.int v :: st) w kc ks post := by
  refine ev_p hc rfl (kk _ ?_)
  refine List.mem_map.mpr ⟨_, ?_, rfl⟩
  generalize ps.toList = qs
  induction qs with
  | nil => simp [Op.lookupswitch.offset]
  | cons a t ih =>
    simp only [Op.lookupswitch.offset, List.map_cons]
    split
    · exact List.mem_cons_of_mem _ List.mem_cons_self
    · rcases List.mem_cons.mp ih with h | h
      · rw [h]; exact List.mem_cons_self
      · exact List.mem_cons_of_mem _ (List.mem_cons_of_mem _ h)
theorem ev_min {ins : Instr} {len x y z : Nat} {a b : Int32} (hc : rz_code M pc = some (6, ins, len, x, y, z)) (hs : (st.map fun v => v.category).sum ≤ 8) (k : rz_E xs xl M (pc + len) L (.int (if b < a then b else a) :: st) w kc ks post) : rz_E xs xl M pc L (.int b :: .int a :: st) w kc ks post := by
  obtain ⟨n, r, w1, h1, h2⟩ := k
  refine ⟨n + 1, r, w1, ?_, h2⟩
  rw [rz_run, hc]
  exact (if_pos hs).trans h1
theorem ev_w {w2 : rz_W} (h : w = w2) (k : rz_E xs xl M pc L st w2 kc ks post) : rz_E xs xl M pc L st w kc ks post := h ▸ k
end RZS
theorem rz_mem2 {t a0 a1 : Nat} (h : t ∈ [a0, a1]) : t = a0 ∨ t = a1 := by simpa using h
theorem rz_mem3 {t a0 a1 a2 : Nat} (h : t ∈ [a0, a1, a2]) : t = a0 ∨ t = a1 ∨ t = a2 := by simpa using h
theorem rz_mem4 {t a0 a1 a2 a3 : Nat} (h : t ∈ [a0, a1, a2, a3]) : t = a0 ∨ t = a1 ∨ t = a2 ∨ t = a3 := by simpa using h
theorem rz_mem5 {t a0 a1 a2 a3 a4 : Nat} (h : t ∈ [a0, a1, a2, a3, a4]) : t = a0 ∨ t = a1 ∨ t = a2 ∨ t = a3 ∨ t = a4 := by simpa using h
theorem rz_mem11 {t a0 a1 a2 a3 a4 a5 a6 a7 a8 a9 a10 : Nat} (h : t ∈ [a0, a1, a2, a3, a4, a5, a6, a7, a8, a9, a10]) : t = a0 ∨ t = a1 ∨ t = a2 ∨ t = a3 ∨ t = a4 ∨ t = a5 ∨ t = a6 ∨ t = a7 ∨ t = a8 ∨ t = a9 ∨ t = a10 := by simpa using h
theorem rz_mem14 {t a0 a1 a2 a3 a4 a5 a6 a7 a8 a9 a10 a11 a12 a13 : Nat} (h : t ∈ [a0, a1, a2, a3, a4, a5, a6, a7, a8, a9, a10, a11, a12, a13]) : t = a0 ∨ t = a1 ∨ t = a2 ∨ t = a3 ∨ t = a4 ∨ t = a5 ∨ t = a6 ∨ t = a7 ∨ t = a8 ∨ t = a9 ∨ t = a10 ∨ t = a11 ∨ t = a12 ∨ t = a13 := by simpa using h
theorem rc_eq_t {a b : Int32} (h : rz_cmp .eq a b = true) : a = b := by simpa [rz_cmp] using h
theorem rc_eq_f {a b : Int32} (h : rz_cmp .eq a b = false) : ¬ a = b := by simpa [rz_cmp] using h
theorem rc_ne_t {a b : Int32} (h : rz_cmp .ne a b = true) : ¬ a = b := by simpa [rz_cmp] using h
theorem rc_ne_f {a b : Int32} (h : rz_cmp .ne a b = false) : a = b := by simpa [rz_cmp] using h
theorem rc_lt_t {a b : Int32} (h : rz_cmp .lt a b = true) : a < b := by simpa [rz_cmp] using h
theorem rc_lt_f {a b : Int32} (h : rz_cmp .lt a b = false) : ¬ a < b := by simpa [rz_cmp] using h
theorem rc_ge_t {a b : Int32} (h : rz_cmp .ge a b = true) : b ≤ a := by simpa [rz_cmp] using h
theorem rc_ge_f {a b : Int32} (h : rz_cmp .ge a b = false) : ¬ b ≤ a := by simpa [rz_cmp] using h
theorem rc_gt_t {a b : Int32} (h : rz_cmp .gt a b = true) : b < a := by simpa [rz_cmp] using h
theorem rc_gt_f {a b : Int32} (h : rz_cmp .gt a b = false) : ¬ b < a := by simpa [rz_cmp] using h
theorem rc_le_t {a b : Int32} (h : rz_cmp .le a b = true) : a ≤ b := by simpa [rz_cmp] using h
theorem rc_le_f {a b : Int32} (h : rz_cmp .le a b = false) : ¬ a ≤ b := by simpa [rz_cmp] using h
theorem rn_ge_t {n k : Nat} (hn : n < 2 ^ 31) (hk : k < 2 ^ 31) (h : rz_cmp .ge (Int32.ofNat n) (Int32.ofNat k) = true) : k ≤ n := (rz_le_iff hk hn).mp (rc_ge_t h)
theorem rn_ge_f {n k : Nat} (hn : n < 2 ^ 31) (hk : k < 2 ^ 31) (h : rz_cmp .ge (Int32.ofNat n) (Int32.ofNat k) = false) : n < k := Nat.not_le.mp fun q => rc_ge_f h ((rz_le_iff hk hn).mpr q)
theorem rn_lt_t {n k : Nat} (hn : n < 2 ^ 31) (hk : k < 2 ^ 31) (h : rz_cmp .lt (Int32.ofNat n) (Int32.ofNat k) = true) : n < k := (rz_lt_iff hn hk).mp (rc_lt_t h)
theorem rn_lt_f {n k : Nat} (hn : n < 2 ^ 31) (hk : k < 2 ^ 31) (h : rz_cmp .lt (Int32.ofNat n) (Int32.ofNat k) = false) : k ≤ n := Nat.not_lt.mp fun q => rc_lt_f h ((rz_lt_iff hn hk).mpr q)
theorem rn_gt_t {n k : Nat} (hn : n < 2 ^ 31) (hk : k < 2 ^ 31) (h : rz_cmp .gt (Int32.ofNat n) (Int32.ofNat k) = true) : k < n := (rz_lt_iff hk hn).mp (rc_gt_t h)
theorem rn_gt_f {n k : Nat} (hn : n < 2 ^ 31) (hk : k < 2 ^ 31) (h : rz_cmp .gt (Int32.ofNat n) (Int32.ofNat k) = false) : n ≤ k := Nat.not_lt.mp fun q => rc_gt_f h ((rz_lt_iff hk hn).mpr q)
theorem rn_le_t {n k : Nat} (hn : n < 2 ^ 31) (hk : k < 2 ^ 31) (h : rz_cmp .le (Int32.ofNat n) (Int32.ofNat k) = true) : n ≤ k := (rz_le_iff hn hk).mp (rc_le_t h)
theorem rn_le_f {n k : Nat} (hn : n < 2 ^ 31) (hk : k < 2 ^ 31) (h : rz_cmp .le (Int32.ofNat n) (Int32.ofNat k) = false) : k < n := Nat.not_le.mp fun q => rc_le_f h ((rz_le_iff hn hk).mpr q)
theorem ev_l {xs : Nat → Int32} {xl M pc : Nat} {L L2 : rz_L} {st : List Value} {w : rz_W} {kc ks : Nat} {post : rz_R → rz_W → Prop} (h : L = L2) (k : rz_E xs xl M pc L2 st w kc ks post) : rz_E xs xl M pc L st w kc ks post := h ▸ k
