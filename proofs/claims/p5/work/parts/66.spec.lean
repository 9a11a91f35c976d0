/-! the pure picture of a program: quadruples (operation, d, s, t); what a row does; which registers live -/
abbrev rz_Q : Type := Nat × Nat × Nat × Nat
def rz_lg (q : rz_Q) : Prop := q.1 ≤ 15 ∧ q.2.1 ≤ 3 ∧ q.2.2.1 ≤ 3 ∧ q.2.2.2 ≤ 24 ∧ (q.1 ≤ 5 → q.2.2.2 ≤ 3)
def rz_pk (q : rz_Q) : Int32 := Int32.ofNat q.1 <<< 9 ||| Int32.ofNat q.2.1 <<< 7 ||| Int32.ofNat q.2.2.1 <<< 5 ||| Int32.ofNat q.2.2.2
set_option maxRecDepth 100000 in
theorem rz_pkd : (List.range 16).all (fun o => (List.range 4).all (fun d => (List.range 4).all (fun s => (List.range 25).all (fun t => decide (rz_pk (o, d, s, t) >>> (9 &&& 31) = Int32.ofNat o) && decide (rz_pk (o, d, s, t) >>> (7 &&& 31) &&& 3 = Int32.ofNat d) && decide (rz_pk (o, d, s, t) >>> (5 &&& 31) &&& 3 = Int32.ofNat s) && decide (rz_pk (o, d, s, t) &&& 31 = Int32.ofNat t) && decide (rz_pk (o, d, s, t) &&& (-32 : Int32) = Int32.ofNat o <<< 9 ||| Int32.ofNat d <<< 7 ||| Int32.ofNat s <<< 5))))) = true := by decide +kernel
theorem rz_pk_all {q : rz_Q} (h : rz_lg q) : rz_pk q >>> (9 &&& 31) = Int32.ofNat q.1 ∧ rz_pk q >>> (7 &&& 31) &&& 3 = Int32.ofNat q.2.1 ∧ rz_pk q >>> (5 &&& 31) &&& 3 = Int32.ofNat q.2.2.1 ∧ rz_pk q &&& 31 = Int32.ofNat q.2.2.2 ∧ rz_pk q &&& (-32 : Int32) = Int32.ofNat q.1 <<< 9 ||| Int32.ofNat q.2.1 <<< 7 ||| Int32.ofNat q.2.2.1 <<< 5 := by
  obtain ⟨o, d, s, t⟩ := q
  obtain ⟨h1, h2, h3, h4, -⟩ := h
  dsimp only at h1 h2 h3 h4
  have h := List.all_eq_true.mp (List.all_eq_true.mp (List.all_eq_true.mp (List.all_eq_true.mp rz_pkd o (List.mem_range.mpr (by omega))) d (List.mem_range.mpr (by omega))) s (List.mem_range.mpr (by omega))) t (List.mem_range.mpr (by omega))
  simp only [Bool.and_eq_true, decide_eq_true_eq] at h
  exact ⟨h.1.1.1.1, h.1.1.1.2, h.1.1.2, h.1.2, h.2⟩
theorem rz_pk_o {q : rz_Q} (h : rz_lg q) : rz_pk q >>> (9 &&& 31) = Int32.ofNat q.1 := (rz_pk_all h).1
theorem rz_pk_d {q : rz_Q} (h : rz_lg q) : rz_pk q >>> (7 &&& 31) &&& 3 = Int32.ofNat q.2.1 := (rz_pk_all h).2.1
theorem rz_pk_s {q : rz_Q} (h : rz_lg q) : rz_pk q >>> (5 &&& 31) &&& 3 = Int32.ofNat q.2.2.1 := (rz_pk_all h).2.2.1
theorem rz_pk_t {q : rz_Q} (h : rz_lg q) : rz_pk q &&& 31 = Int32.ofNat q.2.2.2 := (rz_pk_all h).2.2.2.1
theorem rz_pk_w {q : rz_Q} (h : rz_lg q) (t2 : Nat) : (rz_pk q &&& (-32 : Int32)) ||| Int32.ofNat t2 = rz_pk (q.1, q.2.1, q.2.2.1, t2) := by rw [(rz_pk_all h).2.2.2.2]; rfl
/-! bits of packed registers -/
def rz_vl (r k : Int32) : Int32 := (r >>> (k * 4 &&& 31)) &&& 15
def rz_wi (r n x : Int32) : Int32 := if n = 0 then r else (r &&& ((15 <<< (n * 4 &&& 31)) ^^^ Int32.ofInt (-1))) ||| ((x &&& 15) <<< (n * 4 &&& 31))
def rz_b (x : Int32) (i : Nat) : Bool := x.toBitVec.getLsbD i
theorem rz_b_ext {x y : Int32} (h : ∀ i, i < 32 → rz_b x i = rz_b y i) : x = y := by
  apply Int32.toBitVec_inj.mp
  exact BitVec.eq_of_getLsbD_eq h
theorem rz_b_and (x y : Int32) (i : Nat) : rz_b (x &&& y) i = (rz_b x i && rz_b y i) := by
  unfold rz_b; rw [Int32.toBitVec_and, BitVec.getLsbD_and]
theorem rz_b_or (x y : Int32) (i : Nat) : rz_b (x ||| y) i = (rz_b x i || rz_b y i) := by
  unfold rz_b; rw [Int32.toBitVec_or, BitVec.getLsbD_or]
theorem rz_b_xor (x y : Int32) (i : Nat) : rz_b (x ^^^ y) i = (rz_b x i != rz_b y i) := by
  unfold rz_b; rw [Int32.toBitVec_xor, BitVec.getLsbD_xor]
theorem rz_b15 : ∀ i, i < 32 → rz_b 15 i = decide (i < 4) := by decide +kernel
theorem rz_b_shr {x : Int32} {k i : Nat} (hk : k < 4) (hi : i < 4) : rz_b (x >>> (Int32.ofNat k * 4 &&& 31)) i = rz_b x (4 * k + i) := by
  have e : (Int32.ofNat k * 4 &&& 31 : Int32).toBitVec.smod 32 = BitVec.ofNat 32 (4 * k) := by
    have key : ∀ k, k < 4 → (Int32.ofNat k * 4 &&& 31 : Int32).toBitVec.smod 32 = BitVec.ofNat 32 (4 * k) := by decide +kernel
    exact key k hk
  unfold rz_b
  rw [Int32.toBitVec_shiftRight, e]
  have e2 : (BitVec.ofNat 32 (4 * k)).toNat = 4 * k := by rw [BitVec.toNat_ofNat]; omega
  rw [BitVec.sshiftRight', e2, BitVec.getLsbD_sshiftRight]
  rw [if_pos (by omega)]
  simp; omega
theorem rz_b_shl {x : Int32} {d j : Nat} (hd : d < 4) (hj : j < 32) : rz_b (x <<< (Int32.ofNat d * 4 &&& 31)) j = (decide (4 * d ≤ j) && rz_b x (j - 4 * d)) := by
  have e : (Int32.ofNat d * 4 &&& 31 : Int32).toBitVec.smod 32 = BitVec.ofNat 32 (4 * d) := by
    have key : ∀ k, k < 4 → (Int32.ofNat k * 4 &&& 31 : Int32).toBitVec.smod 32 = BitVec.ofNat 32 (4 * k) := by decide +kernel
    exact key d hd
  unfold rz_b
  rw [Int32.toBitVec_shiftLeft, e]
  have e2 : (BitVec.ofNat 32 (4 * d)).toNat = 4 * d := by rw [BitVec.toNat_ofNat]; omega
  rw [BitVec.shiftLeft_eq', e2, BitVec.getLsbD_shiftLeft]
  by_cases h : 4 * d ≤ j
  · simp [h, hj]
  · simp [h, Nat.not_le.mp h]
theorem rz_b_vl {r : Int32} {k i : Nat} (hk : k < 4) (hi : i < 32) : rz_b (rz_vl r (Int32.ofNat k)) i = (decide (i < 4) && rz_b r (4 * k + i)) := by
  unfold rz_vl
  rw [rz_b_and, rz_b15 i hi]
  by_cases h : i < 4
  · rw [rz_b_shr hk h]; simp [h]
  · simp [h]
theorem rz_vl_eq {r r' : Int32} {k k' : Nat} (hk : k < 4) (hk' : k' < 4) (h : ∀ i, i < 4 → rz_b r (4 * k + i) = rz_b r' (4 * k' + i)) : rz_vl r (Int32.ofNat k) = rz_vl r' (Int32.ofNat k') := by
  apply rz_b_ext
  intro i hi
  rw [rz_b_vl hk hi, rz_b_vl hk' hi]
  by_cases h4 : i < 4
  · rw [h i h4]
  · simp [h4]
theorem rz_msk : ∀ d, d < 4 → d ≠ 0 → ∀ j, j < 32 → rz_b ((15 <<< (Int32.ofNat d * 4 &&& 31)) ^^^ Int32.ofInt (-1)) j = !(decide (4 * d ≤ j) && decide (j < 4 * d + 4)) := by decide +kernel
theorem rz_wv {d k : Nat} (hd : d < 4) (hk : k < 4) (r x : Int32) : rz_vl (rz_wi r (Int32.ofNat d) x) (Int32.ofNat k) = if k = d ∧ d ≠ 0 then x &&& 15 else rz_vl r (Int32.ofNat k) := by
  unfold rz_wi
  by_cases h0 : d = 0
  · subst h0
    rw [if_pos (show Int32.ofNat 0 = 0 from rfl), if_neg (by omega)]
  · have hn : ¬ Int32.ofNat d = 0 := fun q => h0 ((rz_eq_iff (k := 0) (by omega) (by omega)).mp q)
    rw [if_neg hn]
    apply rz_b_ext
    intro i hi
    rw [rz_b_vl hk hi]
    by_cases h4 : i < 4
    · rw [rz_b_or, rz_b_and, rz_msk d hd h0 _ (by omega), rz_b_shl hd (by omega), rz_b_and]
      by_cases hkd : k = d
      · subst hkd
        rw [if_pos ⟨rfl, h0⟩, rz_b_and, rz_b15 i hi]
        have e : 4 * k + i - 4 * k = i := by omega
        rw [e, rz_b15 i hi]
        simp [h4]
      · rw [if_neg (fun q => hkd q.1), rz_b_vl hk hi]
        by_cases hlt : 4 * d ≤ 4 * k + i
        · have h2 : ¬ 4 * k + i < 4 * d + 4 := by omega
          have h3 : ¬ 4 * k + i - 4 * d < 4 := by omega
          rw [rz_b15 (4 * k + i - 4 * d) (by omega)]
          simp [h4, h2, h3]
        · simp [h4, hlt]
    · by_cases hkd : k = d ∧ d ≠ 0
      · rw [if_pos hkd, rz_b_and, rz_b15 i hi]
        simp [h4]
      · rw [if_neg hkd, rz_b_vl hk hi]
        simp [h4]
/-- the mask of a set, by the class's loop -/
def rz_mo (S : Int32) : Nat → Int32
  | 0 => 0
  | k + 1 => if (S >>> (Int32.ofNat k &&& 31)) &&& 1 = 1 then rz_mo S k ||| (15 <<< (Int32.ofNat k * 4 &&& 31)) else rz_mo S k
def rz_on (S : Int32) (k : Nat) : Prop := (S >>> (Int32.ofNat k &&& 31)) &&& 1 = 1
theorem rz_mod : ∀ S, S < 16 → ∀ j, j < 32 → rz_b (rz_mo (Int32.ofNat S) 4) j = (decide (j < 16) && decide ((Int32.ofNat S >>> (Int32.ofNat (j / 4) &&& 31)) &&& 1 = 1)) := by decide +kernel
theorem rz_cmp0 {A B : Int32} {S : Nat} (hS : S < 16) : ((A ^^^ B) &&& rz_mo (Int32.ofNat S) 4 = 0) ↔ ∀ k, k < 4 → rz_on (Int32.ofNat S) k → rz_vl A (Int32.ofNat k) = rz_vl B (Int32.ofNat k) := by
  have h0 : ∀ j, rz_b 0 j = false := fun j => by show (0#32).getLsbD j = false; simp
  constructor
  · intro h k hk hon
    apply rz_vl_eq hk hk
    intro i hi
    have h1 : rz_b ((A ^^^ B) &&& rz_mo (Int32.ofNat S) 4) (4 * k + i) = false := by rw [h]; exact h0 _
    rw [rz_b_and, rz_mod S hS _ (by omega), rz_b_xor] at h1
    have e : (4 * k + i) / 4 = k := by omega
    have h2 : decide (4 * k + i < 16) = true := decide_eq_true (by omega)
    have h3 : decide ((Int32.ofNat S >>> (Int32.ofNat k &&& 31)) &&& 1 = 1) = true := decide_eq_true hon
    rw [e, h2, h3] at h1
    cases h4 : rz_b A (4 * k + i) <;> cases h5 : rz_b B (4 * k + i) <;> simp [h4, h5] at h1 <;> rfl
  · intro h
    apply rz_b_ext
    intro j hj
    rw [h0, rz_b_and, rz_mod S hS _ hj, rz_b_xor]
    by_cases h16 : j < 16
    · by_cases hon : (Int32.ofNat S >>> (Int32.ofNat (j / 4) &&& 31)) &&& 1 = 1
      · have h1 := h (j / 4) (by omega) hon
        have h2 : rz_b (rz_vl A (Int32.ofNat (j / 4))) (j % 4) = rz_b (rz_vl B (Int32.ofNat (j / 4))) (j % 4) := by rw [h1]
        rw [rz_b_vl (by omega) (by omega), rz_b_vl (by omega) (by omega)] at h2
        have e : 4 * (j / 4) + j % 4 = j := by omega
        have h4 : decide (j % 4 < 4) = true := decide_eq_true (by omega)
        rw [e, h4] at h2
        cases h4 : rz_b A j <;> cases h5 : rz_b B j <;> simp [h4, h5] at h2 <;> rfl
      · have h3 : decide ((Int32.ofNat S >>> (Int32.ofNat (j / 4) &&& 31)) &&& 1 = 1) = false := decide_eq_false hon
        rw [h3]; simp
    · have h3 : decide (j < 16) = false := decide_eq_false h16
      rw [h3]; simp
/-! what an instruction and a row do to registers -/
def rz_made (o : Nat) (x y : Int32) : Int32 := (if o = 0 ∨ o = 6 then x + y else if o = 1 then x - y else if o = 2 ∨ o = 7 then x &&& y else if o = 3 then x ||| y else if o = 4 ∨ o = 8 then x ^^^ y else if o = 5 then (if x < y then 1 else 0) else x <<< (y &&& 31)) &&& 15
def rz_sp (q : rz_Q) (x : Nat → Int32) : Nat → Int32 := fun k => if k = q.2.1 then (if q.2.1 = 0 then 0 else rz_made q.1 (x q.2.2.1) (if q.1 ≤ 5 then x q.2.2.2 else Int32.ofNat q.2.2.2)) else x k
def rz_sq (R : Nat → rz_Q) (p : Nat) : Nat → (Nat → Int32) → Nat → Int32
  | 0, x => x
  | m + 1, x => rz_sp (R (p + m)) (rz_sq R p m x)
def rz_bg (s : Nat) : Nat → Int32 := fun k => if k = 1 then Int32.ofNat s &&& 15 else if k = 2 then (Int32.ofNat s >>> (4 &&& 31)) &&& 15 else if k = 3 then Int32.ofNat s >>> (8 &&& 31) else 0
def rz_ag (F G : (Nat → Int32) → Nat → Int32) (S : Int32) : Prop := ∀ s, s < 4096 → ∀ k, 1 ≤ k → k < 4 → rz_on S k → F (rz_bg s) k = G (rz_bg s) k
set_option maxRecDepth 100000 in
theorem rz_bgv : ∀ s1, s1 < 64 → ∀ s2, s2 < 64 → ∀ k, k < 4 → rz_vl (Int32.ofNat (64 * s1 + s2) <<< (4 &&& 31)) (Int32.ofNat k) = rz_bg (64 * s1 + s2) k := by decide +kernel
theorem rz_bg_vl {s k : Nat} (hs : s < 4096) (hk : k < 4) : rz_vl (Int32.ofNat s <<< (4 &&& 31)) (Int32.ofNat k) = rz_bg s k := by
  have h := rz_bgv (s / 64) (by omega) (s % 64) (by omega) k hk
  rw [show 64 * (s / 64) + s % 64 = s by omega] at h
  exact h
/-- packed registers and a state -/
def rz_rg (r : Int32) (x : Nat → Int32) : Prop := x 0 = 0 ∧ ∀ k, k < 4 → rz_vl r (Int32.ofNat k) = x k
