/-! the pure picture: blocks, rows, candidates, cutting, improving -/
def rz_bn (R : Nat → rz_Q) (n p : Nat) : Prop := p = 0 ∨ 12 ≤ (R (p - 1)).1 ∨ ∃ k, k < n ∧ 12 ≤ (R k).1 ∧ (R k).1 ≤ 14 ∧ (R k).2.2.2 = p
def rz_pl (R : Nat → rz_Q) (p m : Nat) : Prop := ∀ k, p ≤ k → k < p + m → (R k).1 ≤ 9
def rz_ir (R : Nat → rz_Q) (n p m : Nat) : Prop := p + m ≤ n ∧ rz_pl R p m ∧ ∀ k, p < k → k < p + m → ¬ rz_bn R n k
def rz_cd (R : Nat → rz_Q) (p m t : Nat) : Prop := t = 0 ∨ t = 1 ∨ t = 15 ∨ ∃ k, p ≤ k ∧ k < p + m ∧ 6 ≤ (R k).1 ∧ (R k).2.2.2 = t
def rz_cq (i : Nat) : rz_Q := (i / 192, 1 + i / 64 % 3, i / 16 % 4, i % 16)
def rz_ch (R : Nat → rz_Q) (p m i : Nat) : Prop := if i / 192 < 6 then i % 16 < 4 else rz_cd R p m (i % 16)
def rz_ht (R : Nat → rz_Q) (p m : Nat) (S : Int32) (i : Nat) : Prop := rz_ch R p m i ∧ rz_ag (rz_sq R p m) (rz_sp (rz_cq i)) S
def rz_nd (R : Nat → rz_Q) (p m : Nat) (S : Int32) : Prop := rz_ag (rz_sq R p m) (fun x => x) S
noncomputable def rz_dc (P : Prop) : Bool := @decide P (Classical.propDecidable P)
theorem rz_dc_t {P : Prop} (h : P) : rz_dc P = true := @decide_eq_true P (Classical.propDecidable P) h
theorem rz_dc_f {P : Prop} (h : ¬ P) : rz_dc P = false := @decide_eq_false P (Classical.propDecidable P) h
noncomputable def rz_fi (H : Nat → Prop) : Nat → Nat → Nat
  | 0, i => i
  | d + 1, i => if rz_dc (H i) = true then i else rz_fi H d (i + 1)
theorem rz_fi_eq {H : Nat → Prop} {j : Nat} (h1 : ∀ i, i < j → ¬ H i) (h2 : j < 1920 → H j) (hj : j ≤ 1920) : rz_fi H 1920 0 = j := by
  have key : ∀ d i, i + d = 1920 → i ≤ j → rz_fi H d i = j := by
    intro d
    induction d with
    | zero => intro i hi hij; rw [rz_fi]; omega
    | succ d ih =>
      intro i hi hij
      rw [rz_fi]
      by_cases he : i = j
      · rw [he, rz_dc_t (h2 (by omega)), if_pos rfl]
      · rw [rz_dc_f (h1 i (by omega)), if_neg (by decide)]
        exact ih (i + 1) (by omega) (by omega)
  exact key 1920 0 (by omega) (Nat.zero_le _)
/-- how many of the first j are candidates -/
noncomputable def rz_ct (C : Nat → Prop) : Nat → Nat
  | 0 => 0
  | j + 1 => rz_ct C j + (if rz_dc (C j) = true then 1 else 0)
noncomputable def rz_jx (R : Nat → rz_Q) (p m : Nat) (S : Int32) : Nat := rz_fi (rz_ht R p m S) 1920 0
def rz_S (R : Nat → rz_Q) (n k : Nat) : Int32 := rz_at n (rz_lv R n) k
abbrev rz_O : Type := Option (Nat × Option Nat)
/-- rows of m or fewer at p: which is replaced and by what; how many were looked at -/
noncomputable def rz_IM (R : Nat → rz_Q) (n p : Nat) : Nat → Nat → rz_O × Nat
  | 0, l => (none, l)
  | m + 1, l => if rz_dc (rz_ir R n p (m + 1)) = true then
      (if rz_dc (rz_nd R p (m + 1) (rz_S R n (p + (m + 1)))) = true then (some (m + 1, none), l + 1)
      else if 1 < m + 1 then (if rz_jx R p (m + 1) (rz_S R n (p + (m + 1))) < 1920 then (some (m + 1, some (rz_jx R p (m + 1) (rz_S R n (p + (m + 1))))), l + 1 + rz_ct (rz_ch R p (m + 1)) (rz_jx R p (m + 1) (rz_S R n (p + (m + 1))) + 1)) else rz_IM R n p m (l + 1 + rz_ct (rz_ch R p (m + 1)) 1920))
      else rz_IM R n p m (l + 1))
    else rz_IM R n p m l
def rz_mv (p less : Nat) (q : rz_Q) : rz_Q := if 12 ≤ q.1 ∧ q.1 ≤ 14 ∧ p < q.2.2.2 then (q.1, q.2.1, q.2.2.1, q.2.2.2 - less) else q
def rz_sh (R : Nat → rz_Q) (p m b : Nat) (q : rz_Q) : Nat → rz_Q := fun k => if k < p then R k else if k < p + b then q else R (k + (m - b))
def rz_cu (R : Nat → rz_Q) (p m b : Nat) (q : rz_Q) : Nat → rz_Q := fun k => rz_mv p (m - b) (rz_sh R p m b q k)
/-- what improving at p gives: the answer (-1: nothing), the program, its size, the three counts -/
noncomputable def rz_im (R : Nat → rz_Q) (n p r b l : Nat) : Int32 × (Nat → rz_Q) × Nat × Nat × Nat × Nat := match rz_IM R n p 3 l with
  | (none, l) => (-1, R, n, r, b, l)
  | (some (m, none), l) => (0, rz_cu R p m 0 (0, 0, 0, 0), n - m, r + 1, b + 1, l)
  | (some (m, some j), l) => (1, rz_cu R p m 1 (rz_cq j), n - (m - 1), r + 1, b, l)
/-- where improving goes on behind an answer -/
def rz_nx (p : Nat) (u : Int32) : Nat := if u = 0 then p else p + 1
noncomputable def rz_IP : Nat → (Nat → rz_Q) → Nat → Nat → Nat → Nat → Nat → (Nat → rz_Q) × Nat × Nat × Nat × Nat
  | 0, R, n, _, r, b, l => (R, n, r, b, l)
  | d + 1, R, n, p, r, b, l => if p < n then rz_IP d (rz_im R n p r b l).2.1 (rz_im R n p r b l).2.2.1 (rz_nx p (rz_im R n p r b l).1) (rz_im R n p r b l).2.2.2.1 (rz_im R n p r b l).2.2.2.2.1 (rz_im R n p r b l).2.2.2.2.2 else (R, n, r, b, l)
theorem rz_IP_end {d n p r b l : Nat} {R : Nat → rz_Q} (h : n ≤ p) : rz_IP d R n p r b l = (R, n, r, b, l) := by
  cases d with
  | zero => rfl
  | succ d => rw [rz_IP, if_neg (by omega)]
theorem rz_cq_lg {i : Nat} (h : i < 1920) (h4 : i / 192 < 6 → i % 16 < 4) : rz_lg (rz_cq i) := by
  refine ⟨?_, ?_, ?_, ?_, fun h5 => ?_⟩
  · show i / 192 ≤ 15; omega
  · show 1 + i / 64 % 3 ≤ 3; omega
  · show i / 16 % 4 ≤ 3; omega
  · show i % 16 ≤ 24; omega
  · have h5' : i / 192 ≤ 5 := h5
    have := h4 (by omega)
    show i % 16 ≤ 3
    omega
theorem rz_ch_lg {R : Nat → rz_Q} {p m i : Nat} (h : i < 1920) (hc : rz_ch R p m i) : rz_lg (rz_cq i) := rz_cq_lg h fun h6 => by
  unfold rz_ch at hc
  rw [if_pos h6] at hc
  exact hc
theorem rz_sh_ok {R : Nat → rz_Q} {n p m b k : Nat} {q : rz_Q} (hl : rz_lgs R n) (hir : rz_ir R n p m) (hbm : b ≤ m) (hq : b ≠ 0 → rz_lg q ∧ q.1 ≤ 9) (hk : k < n - (m - b)) : rz_lg (rz_sh R p m b q k) ∧ (12 ≤ (rz_sh R p m b q k).1 → (rz_sh R p m b q k).1 ≤ 14 → p < (rz_sh R p m b q k).2.2.2 → p + m ≤ (rz_sh R p m b q k).2.2.2) := by
  have hk' : k + (m - b) < n := by have := hir.1; omega
  have old : ∀ j, j < n → rz_lg (R j) ∧ (12 ≤ (R j).1 → (R j).1 ≤ 14 → p < (R j).2.2.2 → p + m ≤ (R j).2.2.2) := fun j hj => ⟨hl j hj, fun h1 h2 h3 => by
    rcases Nat.lt_or_ge (R j).2.2.2 (p + m) with h | h
    · exact absurd (Or.inr (Or.inr ⟨j, hj, h1, h2, rfl⟩)) (hir.2.2 _ h3 h)
    · exact h⟩
  unfold rz_sh
  by_cases h1 : k < p
  · rw [if_pos h1]; exact old k (by omega)
  · rw [if_neg h1]
    by_cases h2 : k < p + b
    · rw [if_pos h2]
      obtain ⟨q1, q2⟩ := hq (by omega)
      exact ⟨q1, fun h => absurd h (by omega)⟩
    · rw [if_neg h2]; exact old _ hk'
/-- the program after a cut is legal, if no jump went into the row -/
theorem rz_cu_lg {R : Nat → rz_Q} {n p m b : Nat} {q : rz_Q} (hl : rz_lgs R n) (hir : rz_ir R n p m) (hbm : b ≤ m) (hq : b ≠ 0 → rz_lg q ∧ q.1 ≤ 9) : rz_lgs (rz_cu R p m b q) (n - (m - b)) := by
  intro k hk
  have hs := rz_sh_ok hl hir hbm hq hk
  unfold rz_cu rz_mv
  by_cases h : 12 ≤ (rz_sh R p m b q k).1 ∧ (rz_sh R p m b q k).1 ≤ 14 ∧ p < (rz_sh R p m b q k).2.2.2
  · rw [if_pos h]
    have h2 := hs.2 h.1 h.2.1 h.2.2
    obtain ⟨g1, g2, g3, g4, g5⟩ := hs.1
    exact ⟨g1, g2, g3, by show (rz_sh R p m b q k).2.2.2 - (m - b) ≤ 24; omega, fun h9 => absurd (show (rz_sh R p m b q k).1 ≤ 5 from h9) (by omega)⟩
  · rw [if_neg h]; exact hs.1
