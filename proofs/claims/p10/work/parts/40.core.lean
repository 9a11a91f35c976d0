/-! reasoning over the abstract machine: it comes to an end with a result that satisfies 'post' -/
section RZE
variable {xs : Nat → Int32} {xl : Nat}
variable {n M pc len x y z kc ks : Nat} {ins : Instr} {L : rz_L} {st : List Value} {w : rz_W}
theorem rz_u0 (h : rz_code M pc = some (0, ins, len, x, y, z)) : rz_run xs xl (n + 1) M pc L st w kc ks = (match rz_pure ins len x y pc L st w with
    | some (pc', L', st', w') => rz_run xs xl n M pc' L' st' w' kc ks
    | none => none) := by (rw [rz_run, h]) <;> rfl
theorem rz_u1 (h : rz_code M pc = some (1, ins, len, x, y, z)) : rz_run xs xl (n + 1) M pc L st w kc ks = (if y ≤ st.length ∧ kc + rz_MC x ≤ rz_MC M ∧ ks + rz_MS x ≤ rz_MS M ∧ rz_recv w x ins (st.take y).reverse = true ∧ ((st.drop y).map fun v => v.category).sum ≤ 8 ∧ ((st.take y).all fun v => decide (v.category = 1)) = true then
      (match rz_run xs xl n x 0 (rz_ent x (st.take y).reverse) [] w 0 0 with
      | some (.inl v, w') => rz_run xs xl n M (pc + len) L (v.toList ++ st.drop y) w' (kc + rz_MC x) (ks + rz_MS x)
      | some (.inr k, w') => (match rz_hnd M pc k with
        | some (hp, i) => rz_run xs xl n M hp (L.set i none) [] w' (kc + rz_MC x) (ks + rz_MS x)
        | none => none)
      | none => none)
    else none) := by (rw [rz_run, h]) <;> rfl
theorem rz_u2 (h : rz_code M pc = some (2, ins, len, x, y, z)) : rz_run xs xl (n + 1) M pc L st w kc ks = (match rz_end (rz_rt M) st with
    | some v => some (.inl v, w)
    | none => none) := by (rw [rz_run, h]) <;> rfl
theorem rz_u3 (h : rz_code M pc = some (3, ins, len, x, y, z)) : rz_run xs xl (n + 1) M pc L st w kc ks = (if st = [] ∧ kc + 1 ≤ rz_MC M ∧ ks + 6 ≤ rz_MS M then some (.inr x, w) else none) := by (rw [rz_run, h]) <;> rfl
theorem rz_mono1 : ∀ (n M pc : Nat) (L : rz_L) (st : List Value) (w : rz_W) (kc ks : Nat) (q : rz_R × rz_W), rz_run xs xl n M pc L st w kc ks = some q → rz_run xs xl (n + 1) M pc L st w kc ks = some q := by
  intro n
  induction n with
  | zero => intro M pc L st w kc ks q h; cases h
  | succ n ih =>
    intro M pc L st w kc ks q h
    cases hcd : rz_code M pc with
    | none => rw [rz_run, hcd] at h; cases h
    | some t =>
      obtain ⟨kd, ins, len, x, y, z⟩ := t
      by_cases k0 : kd = 0
      · subst k0
        rw [rz_u0 hcd] at h ⊢
        cases hp : rz_pure ins len x y pc L st w with
        | none => rw [hp] at h; cases h
        | some u =>
          obtain ⟨pc', L', st', w'⟩ := u
          rw [hp] at h
          exact ih _ _ _ _ _ _ _ _ h
      by_cases k1 : kd = 1
      · subst k1
        rw [rz_u1 hcd] at h ⊢
        split at h
        · rename_i hc
          rw [if_pos hc]
          cases hr : rz_run xs xl n x 0 (rz_ent x (st.take y).reverse) [] w 0 0 with
          | none => rw [hr] at h; cases h
          | some u =>
            rw [hr] at h
            rw [ih _ _ _ _ _ _ _ _ hr]
            obtain ⟨r, w1⟩ := u
            cases r with
            | inl v => exact ih _ _ _ _ _ _ _ _ h
            | inr k =>
              dsimp only at h ⊢
              cases hh : rz_hnd M pc k with
              | none => rw [hh] at h; cases h
              | some u2 =>
                obtain ⟨hp, i⟩ := u2
                rw [hh] at h
                exact ih _ _ _ _ _ _ _ _ h
        · cases h
      by_cases k2 : kd = 2
      · subst k2
        rw [rz_u2 hcd] at h ⊢
        exact h
      by_cases k3 : kd = 3
      · subst k3
        rw [rz_u3 hcd] at h ⊢
        exact h
      rw [rz_run, hcd] at h ⊢
      dsimp only at h ⊢
      split at h <;> first | contradiction | skip
      · split at h
        · rename_i hc
          rw [if_pos hc]
          split at h
          · split at h
            · rename_i hin
              rw [if_pos hin]
              exact ih _ _ _ _ _ _ _ _ h
            · cases h
          · exact ih _ _ _ _ _ _ _ _ h
          · cases h
        · cases h
      · split at h
        · split at h
          · split at h
            · rename_i hw0 hw1 hc
              rw [if_pos hc]
              exact ih _ _ _ _ _ _ _ _ h
            · cases h
          · cases h
        · cases h
      · split at h
        · split at h
          · rename_i hc
            rw [if_pos hc]
            exact ih _ _ _ _ _ _ _ _ h
          · cases h
        · cases h
theorem rz_mono {n' : Nat} {q : rz_R × rz_W} (h : rz_run xs xl n M pc L st w kc ks = some q) (hn : n ≤ n') : rz_run xs xl n' M pc L st w kc ks = some q := by
  obtain ⟨k, rfl⟩ := Nat.le.dest hn
  clear hn
  induction k with
  | zero => exact h
  | succ k ih => exact rz_mono1 _ _ _ _ _ _ _ _ _ ih
end RZE
def rz_E (xs : Nat → Int32) (xl M pc : Nat) (L : rz_L) (st : List Value) (w : rz_W) (kc ks : Nat) (post : rz_R → rz_W → Prop) : Prop := ∃ (n : Nat) (r : rz_R) (w' : rz_W), rz_run xs xl n M pc L st w kc ks = some (r, w') ∧ post r w'
/-- a method called with these arguments -/
def rz_C (xs : Nat → Int32) (xl M : Nat) (av : List Value) (w : rz_W) (post : rz_R → rz_W → Prop) : Prop := rz_E xs xl M 0 (rz_ent M av) [] w 0 0 post
/-- k pure steps at a stroke -/
def rz_ps (M : Nat) : Nat → Nat → rz_L → List Value → rz_W → Option (Nat × rz_L × List Value × rz_W)
  | 0, pc, L, st, w => some (pc, L, st, w)
  | k + 1, pc, L, st, w => match rz_code M pc with
    | some (0, ins, len, x, y, _) => match rz_pure ins len x y pc L st w with
      | some (pc', L', st', w') => rz_ps M k pc' L' st' w'
      | none => none
    | _ => none
section RZF
variable {xs : Nat → Int32} {xl M pc : Nat} {L : rz_L} {st : List Value} {w : rz_W} {kc ks : Nat} {post : rz_R → rz_W → Prop}
theorem ev_p {ins : Instr} {len x y z pc' : Nat} {L' : rz_L} {st' : List Value} {w' : rz_W} (hc : rz_code M pc = some (0, ins, len, x, y, z)) (hp : rz_pure ins len x y pc L st w = some (pc', L', st', w')) (k : rz_E xs xl M pc' L' st' w' kc ks post) : rz_E xs xl M pc L st w kc ks post := by
  obtain ⟨n, r, w1, h1, h2⟩ := k
  refine ⟨n + 1, r, w1, ?_, h2⟩
  rw [rz_u0 hc, hp]
  exact h1
theorem ev_ps (k : Nat) : ∀ {pc pc' : Nat} {L L' : rz_L} {st st' : List Value} {w w' : rz_W}, rz_ps M k pc L st w = some (pc', L', st', w') → rz_E xs xl M pc' L' st' w' kc ks post → rz_E xs xl M pc L st w kc ks post := by
  induction k with
  | zero => intro pc pc' L L' st st' w w' h k; cases h; exact k
  | succ k ih =>
    intro pc pc' L L' st st' w w' h kk
    rw [rz_ps] at h
    split at h
    · rename_i hc
      split at h
      · rename_i hp
        exact ev_p hc hp (ih h kk)
      · cases h
    · cases h
theorem ev_mono {post' : rz_R → rz_W → Prop} (h : ∀ r w', post r w' → post' r w') (k : rz_E xs xl M pc L st w kc ks post) : rz_E xs xl M pc L st w kc ks post' := by
  obtain ⟨n, r, w1, h1, h2⟩ := k
  exact ⟨n, r, w1, h1, h _ _ h2⟩
theorem ev_ret {ins : Instr} {len x y z : Nat} {v : Option Value} (hc : rz_code M pc = some (2, ins, len, x, y, z)) (hv : rz_end (rz_rt M) st = some v) (k : post (.inl v) w) : rz_E xs xl M pc L st w kc ks post := by
  refine ⟨1, .inl v, w, ?_, k⟩
  rw [rz_u2 hc, hv]
theorem ev_thr {ins : Instr} {len x y z : Nat} (hc : rz_code M pc = some (3, ins, len, x, y, z)) (h : kc + 1 ≤ rz_MC M ∧ ks + 6 ≤ rz_MS M) (k : post (.inr x) w) : rz_E xs xl M pc L [] w kc ks post := by
  refine ⟨1, .inr x, w, ?_, k⟩
  rw [rz_u3 hc, if_pos ⟨rfl, h.1, h.2⟩]
theorem ev_call {ins : Instr} {len x y z : Nat} {av rest : List Value} {post1 : rz_R → rz_W → Prop} (hc : rz_code M pc = some (1, ins, len, x, y, z)) (hav : st = av.reverse ++ rest) (hy : av.length = y) (hr : rz_recv w x ins av = true)
    (hs : ((rest.map fun v => v.category).sum ≤ 8) ∧ (av.all fun v => decide (v.category = 1)) = true) (hk : kc + rz_MC x ≤ rz_MC M ∧ ks + rz_MS x ≤ rz_MS M) (call : rz_C xs xl x av w post1)
    (kk : ∀ r w', post1 r w' → match r with
      | .inl v => rz_E xs xl M (pc + len) L (v.toList ++ rest) w' (kc + rz_MC x) (ks + rz_MS x) post
      | .inr k => ∃ hp i, rz_hnd M pc k = some (hp, i) ∧ rz_E xs xl M hp (L.set i none) [] w' (kc + rz_MC x) (ks + rz_MS x) post) : rz_E xs xl M pc L st w kc ks post := by
  obtain ⟨n1, r1, w1, h1, h2⟩ := call
  have k2 := kk r1 w1 h2
  have e1 : st.take y = av.reverse := by rw [hav, ← hy]; simp
  have e2 : st.drop y = rest := by rw [hav, ← hy]; simp
  have e3 : (st.take y).reverse = av := by rw [e1, List.reverse_reverse]
  have hcond : y ≤ st.length ∧ kc + rz_MC x ≤ rz_MC M ∧ ks + rz_MS x ≤ rz_MS M ∧ rz_recv w x ins (st.take y).reverse = true ∧ ((st.drop y).map fun v => v.category).sum ≤ 8 ∧ ((st.take y).all fun v => decide (v.category = 1)) = true := by
    refine ⟨by rw [hav, ← hy]; simp, hk.1, hk.2, by rw [e3]; exact hr, by rw [e2]; exact hs.1, ?_⟩
    rw [e1, List.all_reverse]
    exact hs.2
  cases r1 with
  | inl v =>
    obtain ⟨n2, r, w2, h3, h4⟩ := k2
    refine ⟨max n1 n2 + 1, r, w2, ?_, h4⟩
    rw [rz_u1 hc, if_pos hcond, e3, rz_mono h1 (Nat.le_max_left n1 n2), e2]
    exact rz_mono h3 (Nat.le_max_right n1 n2)
  | inr k =>
    obtain ⟨hp, i, hh, n2, r, w2, h3, h4⟩ := k2
    refine ⟨max n1 n2 + 1, r, w2, ?_, h4⟩
    rw [rz_u1 hc, if_pos hcond, e3, rz_mono h1 (Nat.le_max_left n1 n2)]
    dsimp only
    rw [hh]
    exact rz_mono h3 (Nat.le_max_right n1 n2)
theorem ev_if {cd : Jvm.ClassFile.Cond} {off : Int} {len x y z : Nat} {a : Int32} (hc : rz_code M pc = some (0, .ifCond cd off, len, x, y, z)) (kt : rz_cmp cd a 0 = true → rz_E xs xl M x L st w kc ks post) (kf : rz_cmp cd a 0 = false → rz_E xs xl M (pc + len) L st w kc ks post) : rz_E xs xl M pc L (.int a :: st) w kc ks post := by
  cases h : rz_cmp cd a 0 with
  | true => exact ev_p hc (show some (if rz_cmp cd a 0 = true then x else pc + len, L, st, w) = _ by rw [h]; rfl) (kt h)
  | false => exact ev_p hc (show some (if rz_cmp cd a 0 = true then x else pc + len, L, st, w) = _ by rw [h]; rfl) (kf h)
theorem ev_ic {cd : Jvm.ClassFile.Cond} {off : Int} {len x y z : Nat} {a b : Int32} (hc : rz_code M pc = some (0, .if_icmp cd off, len, x, y, z)) (kt : rz_cmp cd a b = true → rz_E xs xl M x L st w kc ks post) (kf : rz_cmp cd a b = false → rz_E xs xl M (pc + len) L st w kc ks post) : rz_E xs xl M pc L (.int b :: .int a :: st) w kc ks post := by
  cases h : rz_cmp cd a b with
  | true => exact ev_p hc (show some (if rz_cmp cd a b = true then x else pc + len, L, st, w) = _ by rw [h]; rfl) (kt h)
  | false => exact ev_p hc (show some (if rz_cmp cd a b = true then x else pc + len, L, st, w) = _ by rw [h]; rfl) (kf h)
theorem ev_get {idx len x y z i : Nat} {fs : List Value} {v : Value} (hc : rz_code M pc = some (0, .getfield idx, len, x, y, z)) (hw : w[i]? = some (.inr (x, fs))) (hv : fs[y]? = some v) (k : rz_E xs xl M (pc + len) L (v :: st) w kc ks post) : rz_E xs xl M pc L (.ref i :: st) w kc ks post := by
  refine ev_p hc ?_ k
  simp [rz_pure, hw, hv]
theorem ev_put {idx len x y z i : Nat} {fs : List Value} {v : Value} (hc : rz_code M pc = some (0, .putfield idx, len, x, y, z)) (hw : w[i]? = some (.inr (x, fs))) (hy : y < fs.length) (hv : rz_fit (rz_fty x y) v = true) (k : rz_E xs xl M (pc + len) L st (w.set i (.inr (x, fs.set y v))) kc ks post) : rz_E xs xl M pc L (v :: .ref i :: st) w kc ks post := by
  refine ev_p hc ?_ k
  simp [rz_pure, hw, hv, hy]
theorem ev_ald {len x y z i n : Nat} {f : Nat → Int32} {j : Int32} (hc : rz_code M pc = some (0, .iaload, len, x, y, z)) (hw : w[i]? = some (.inl (0, n, .inl f))) (hj : ¬ (j < 0 ∨ n ≤ j.toNatClampNeg)) (k : rz_E xs xl M (pc + len) L (.int (f j.toNatClampNeg) :: st) w kc ks post) : rz_E xs xl M pc L (.int j :: .ref i :: st) w kc ks post := by
  refine ev_p hc ?_ k
  simp only [rz_pure, hw]
  rw [if_pos ⟨trivial, hj⟩]
theorem ev_ast {len x y z i n : Nat} {f : Nat → Int32} {j v : Int32} (hc : rz_code M pc = some (0, .iastore, len, x, y, z)) (hw : w[i]? = some (.inl (0, n, .inl f))) (hj : ¬ (j < 0 ∨ n ≤ j.toNatClampNeg)) (k : rz_E xs xl M (pc + len) L st (w.set i (.inl (0, n, .inl (upd f j.toNatClampNeg v)))) kc ks post) : rz_E xs xl M pc L (.int v :: .int j :: .ref i :: st) w kc ks post := by
  refine ev_p hc ?_ k
  simp only [rz_pure, hw]
  rw [if_pos ⟨trivial, hj⟩]
end RZF
/-! the world of the law: the class's cells at places 0 to 24, the reference's at 25 to 34, the law's own array at 35; v the numbers in fields, a the int arrays, g the long array -/
def rz_w (v : Nat → Int32) (a : Nat → Nat → Int32) (g : Nat → Int64) : rz_W := [
  .inr (0, [.ref 1, .ref 3, .ref 6, .ref 8, .ref 13]),
  .inr (1, [.ref 2, .int (v 0)]), .inl (0, 24, .inl (a 0)),
  .inr (2, [.ref 4, .ref 5, .int (v 1), .int (v 2), .int (v 3), .int (v 4)]), .inl (0, 8, .inl (a 1)), .inl (0, 8, .inl (a 2)),
  .inr (3, [.ref 7]), .inl (0, 25, .inl (a 3)),
  .inr (4, [.ref 9, .ref 11, .int (v 5)]), .inr (5, [.ref 10, .int (v 6)]), .inl (0, 3, .inl (a 4)), .inr (5, [.ref 12, .int (v 7)]), .inl (0, 3, .inl (a 5)),
  .inr (6, [.ref 14, .ref 16, .ref 21, .ref 23, .int (v 13), .int (v 14), .int (v 15)]),
  .inr (3, [.ref 15]), .inl (0, 25, .inl (a 6)),
  .inr (4, [.ref 17, .ref 19, .int (v 8)]), .inr (5, [.ref 18, .int (v 9)]), .inl (0, 3, .inl (a 7)), .inr (5, [.ref 20, .int (v 10)]), .inl (0, 3, .inl (a 8)),
  .inr (5, [.ref 22, .int (v 11)]), .inl (0, 3, .inl (a 9)), .inr (5, [.ref 24, .int (v 12)]), .inl (0, 3, .inl (a 10)),
  .inr (7, [.int (v 20), .int (v 21), .ref 26, .ref 27, .ref 28, .ref 29, .ref 30, .ref 31, .int (v 22), .int (v 23), .ref 32, .ref 33, .ref 34, .int (v 24), .int (v 25), .int (v 26)]),
  .inl (0, 25, .inl (a 20)), .inl (0, 25, .inl (a 21)), .inl (0, 25, .inl (a 22)), .inl (0, 25, .inl (a 23)), .inl (0, 12, .inl (a 24)), .inl (0, 12, .inl (a 25)), .inl (0, 25, .inl (a 26)), .inl (0, 4, .inl (a 27)), .inl (0, 4, .inl (a 28)),
  .inl (1, 1, .inr (.inl g))]
def rz_up (v : Nat → Int32) (k : Nat) (x : Int32) : Nat → Int32 := fun j => if j = k then x else v j
def rz_ua (a : Nat → Nat → Int32) (k : Nat) (f : Nat → Int32) : Nat → Nat → Int32 := fun j => if j = k then f else a j
section RZT
variable {xs : Nat → Int32} {xl : Nat} {v : Nat → Int32} {a : Nat → Nat → Int32} {g : Nat → Int64}
theorem t_length : rz_C xs xl 4 [.ref 1] (rz_w v a g) (fun r w' => r = .inl (some (.int (v 0))) ∧ w' = rz_w v a g) :=
  ev_ps 2 rfl (ev_ret rfl rfl ⟨rfl, rfl⟩)
theorem t_t {w : rz_W} (c : Int32) : rz_C xs xl 15 [.int c] w (fun r w' => r = .inl (some (.int (c &&& 31))) ∧ w' = w) :=
  ev_ps 3 rfl (ev_ret rfl rfl ⟨rfl, rfl⟩)
theorem t_op {w : rz_W} (c : Int32) : rz_C xs xl 16 [.int c] w (fun r w' => r = .inl (some (.int (c >>> 9))) ∧ w' = w) :=
  ev_ps 3 rfl (ev_ret rfl rfl ⟨rfl, rfl⟩)
theorem t_pack {w : rz_W} (o d s t : Int32) : rz_C xs xl 42 [.int o, .int d, .int s, .int t] w (fun r w' => r = .inl (some (.int (o <<< 9 ||| d <<< 7 ||| s <<< 5 ||| t))) ∧ w' = w) :=
  ev_ps 13 rfl (ev_ret rfl rfl ⟨rfl, rfl⟩)
theorem t_with {w : rz_W} (r n x : Int32) : rz_C xs xl 38 [.int r, .int n, .int x] w (fun q w' => (∃ u, q = .inl (some (.int u))) ∧ w' = w) := by
  refine ev_ps 1 rfl ?_
  refine ev_if (cd := .ne) rfl (fun _ => ?_) (fun _ => ?_)
  · exact ev_ps 17 rfl (ev_ret rfl rfl ⟨⟨_, rfl⟩, rfl⟩)
  · exact ev_ps 1 rfl (ev_ret rfl rfl ⟨⟨_, rfl⟩, rfl⟩)
theorem t_greatestT {w : rz_W} (o : Int32) : rz_C xs xl 52 [.int o] w (fun q w' => (∃ u, q = .inl (some (.int u))) ∧ w' = w) := by
  refine ev_ps 2 rfl (ev_ic (cd := .gt) rfl (fun _ => ?_) (fun _ => ?_))
  · refine ev_ps 2 rfl (ev_ic (cd := .gt) rfl (fun _ => ?_) (fun _ => ?_))
    · refine ev_ps 2 rfl (ev_ic (cd := .gt) rfl (fun _ => ?_) (fun _ => ?_))
      · refine ev_ps 2 rfl (ev_ic (cd := .ne) rfl (fun _ => ?_) (fun _ => ?_))
        · exact ev_ps 1 rfl (ev_ret rfl rfl ⟨⟨_, rfl⟩, rfl⟩)
        · exact ev_ps 2 rfl (ev_ret rfl rfl ⟨⟨_, rfl⟩, rfl⟩)
      · exact ev_ps 1 rfl (ev_ret rfl rfl ⟨⟨_, rfl⟩, rfl⟩)
    · exact ev_ps 1 rfl (ev_ret rfl rfl ⟨⟨_, rfl⟩, rfl⟩)
  · exact ev_ps 1 rfl (ev_ret rfl rfl ⟨⟨_, rfl⟩, rfl⟩)
theorem t_empty : rz_C xs xl 2 [.ref 1] (rz_w v a g) (fun r w' => r = .inl (some (.int (v 0))) ∧ w' = rz_w (rz_up v 0 0) a g) := by
  refine ev_ps 6 rfl ?_
  exact ev_ps 1 rfl (ev_ret rfl rfl ⟨rfl, rfl⟩)
end RZT
/-! small numbers as ints -/
theorem rz_toInt {n : Nat} (h : n < 2 ^ 31) : (Int32.ofNat n).toInt = (n : Int) := by
  first
    | exact Int32.toInt_ofNat_of_lt h
    | exact Int32.toInt_ofNat' (by omega)
    | (rw [Int32.toInt_ofNat]; omega)
theorem rz_lt_iff {n k : Nat} (hn : n < 2 ^ 31) (hk : k < 2 ^ 31) : Int32.ofNat n < Int32.ofNat k ↔ n < k := by
  rw [Int32.lt_iff_toInt_lt, rz_toInt hn, rz_toInt hk]; omega
theorem rz_le_iff {n k : Nat} (hn : n < 2 ^ 31) (hk : k < 2 ^ 31) : Int32.ofNat n ≤ Int32.ofNat k ↔ n ≤ k := by
  rw [Int32.le_iff_toInt_le, rz_toInt hn, rz_toInt hk]; omega
theorem rz_eq_iff {n k : Nat} (hn : n < 2 ^ 31) (hk : k < 2 ^ 31) : Int32.ofNat n = Int32.ofNat k ↔ n = k := by
  constructor
  · intro h
    have := congrArg Int32.toInt h
    rw [rz_toInt hn, rz_toInt hk] at this
    omega
  · rintro rfl; rfl
theorem rz_nat {x : Int32} (h0 : ¬ x < 0) : ∃ k : Nat, k < 2 ^ 31 ∧ x = Int32.ofNat k := by
  have h1 : (0 : Int) ≤ x.toInt := by
    rw [Int32.lt_iff_toInt_lt] at h0
    have : (0 : Int32).toInt = 0 := rfl
    omega
  have h2 : x.toInt < 2 ^ 31 := Int32.toInt_lt x
  refine ⟨x.toInt.toNat, by omega, ?_⟩
  apply Int32.toInt_inj.mp
  rw [rz_toInt (by omega)]
  omega
theorem rz_idx {x : Int32} {n : Nat} (hn : n < 2 ^ 31) (h0 : ¬ x < 0) (h1 : x < Int32.ofNat n) : ∃ k, k < n ∧ x = Int32.ofNat k := by
  obtain ⟨k, hk, rfl⟩ := rz_nat h0
  exact ⟨k, (rz_lt_iff hk hn).mp h1, rfl⟩
theorem rz_clamp {k : Nat} (h : k < 2 ^ 31) : (Int32.ofNat k).toNatClampNeg = k := by
  rw [Int32.toNatClampNeg, rz_toInt h]; omega
theorem rz_in {k n : Nat} (hk : k < n) (hn : n < 2 ^ 31) : ¬ (Int32.ofNat k < 0 ∨ n ≤ (Int32.ofNat k).toNatClampNeg) := by
  rw [rz_clamp (by omega)]
  rintro (h | h)
  · have : ¬ Int32.ofNat k < Int32.ofNat 0 := by rw [rz_lt_iff (by omega) (by omega)]; omega
    exact this h
  · omega
theorem rz_succ (k : Nat) : Int32.ofNat k + 1 = Int32.ofNat (k + 1) := (Int32.ofNat_add k 1).symm
theorem rz_add (k n : Nat) : Int32.ofNat k + Int32.ofNat n = Int32.ofNat (k + n) := (Int32.ofNat_add k n).symm
theorem rz_sub {k n : Nat} (h : n ≤ k) : Int32.ofNat k - Int32.ofNat n = Int32.ofNat (k - n) := by
  have : Int32.ofNat k = Int32.ofNat (k - n) + Int32.ofNat n := by rw [rz_add]; congr 1; omega
  rw [this, Int32.add_sub_cancel]
theorem rz_mask (c : Int32) (b : Nat) (hb : b < 2 ^ 31) : ∃ k, k ≤ b ∧ c &&& Int32.ofNat b = Int32.ofNat k := by
  refine ⟨(c.toBitVec &&& BitVec.ofNat 32 b).toNat, ?_, ?_⟩
  · rw [BitVec.toNat_and, BitVec.toNat_ofNat, Nat.mod_eq_of_lt (by omega)]
    exact Nat.and_le_right
  · apply Int32.toBitVec_inj.mp
    rw [Int32.toBitVec_and]
    show c.toBitVec &&& BitVec.ofNat 32 b = BitVec.ofNat 32 _
    rw [BitVec.ofNat_toNat]
    simp
theorem ev_loop {xs : Nat → Int32} {xl M pc kc ks : Nat} {post : rz_R → rz_W → Prop} {α : Type} (mu : α → Nat) (Inv : α → Prop) (L : α → rz_L) (S : α → List Value) (Wd : α → rz_W)
    (step : ∀ x, Inv x → (∀ y, Inv y → mu y < mu x → rz_E xs xl M pc (L y) (S y) (Wd y) kc ks post) → rz_E xs xl M pc (L x) (S x) (Wd x) kc ks post) : ∀ x, Inv x → rz_E xs xl M pc (L x) (S x) (Wd x) kc ks post := by
  have key : ∀ n x, mu x < n → Inv x → rz_E xs xl M pc (L x) (S x) (Wd x) kc ks post := by
    intro n
    induction n with
    | zero => intro x h; omega
    | succ n ih => intro x h hi; exact step x hi (fun y hy hlt => ih y (by omega) hy)
  exact fun x hi => key (mu x + 1) x (by omega) hi
section RZS
variable {xs : Nat → Int32} {xl M pc : Nat} {L : rz_L} {st : List Value} {w : rz_W} {kc ks : Nat} {post : rz_R → rz_W → Prop}
theorem ev_tsw {d lo hi : Int} {offs : Array Int} {len x y z : Nat} {v : Int32} (hc : rz_code M pc = some (0, .tableswitch d lo hi offs, len, x, y, z)) (kk : ∀ t, t ∈ (d :: offs.toList).map (rz_tg pc) → rz_E xs xl M t L st w kc ks post) : rz_E xs xl M pc L (.int v :: st) w kc ks post := by
  refine ev_p hc rfl (kk _ ?_)
  split
  · exact List.mem_cons_self
  · rw [List.map_cons]
    by_cases h : (v.toInt - lo).toNat < offs.size
    · refine List.mem_cons_of_mem _ (List.mem_map.mpr ⟨offs[(v.toInt - lo).toNat], Array.mem_toList_iff.mpr (Array.getElem_mem h), ?_⟩)
      simp [Array.getD, h]
    · have : offs.getD (v.toInt - lo).toNat d = d := by simp [Array.getD, h]
      rw [this]
      exact List.mem_cons_self
theorem ev_lsw {d : Int} {ps : Array (Int × Int)} {len x y z : Nat} {v : Int32} (hc : rz_code M pc = some (0, .lookupswitch d ps, len, x, y, z)) (kk : ∀ t, t ∈ (d :: ps.toList.map (fun q => q.2)).map (rz_tg pc) → rz_E xs xl M t L st w kc ks post) : rz_E xs xl M pc L (.int v :: st) w kc ks post := by
  refine ev_p hc rfl (kk _ ?_)
  refine List.mem_map.mpr ⟨_, ?_, rfl⟩
  generalize ps.toList = qs
  induction qs with
  | nil => simp [Op.lookupswitch.offset]
  | cons a t ih =>
    simp only [Op.lookupswitch.offset, List.map_cons]
    split
    · exact List.mem_cons_of_mem _ List.mem_cons_self
    · rcases List.mem_cons.mp ih with h | h
      · rw [h]; exact List.mem_cons_self
      · exact List.mem_cons_of_mem _ (List.mem_cons_of_mem _ h)
theorem ev_min {ins : Instr} {len x y z : Nat} {a b : Int32} (hc : rz_code M pc = some (6, ins, len, x, y, z)) (hs : (st.map fun v => v.category).sum ≤ 8) (k : rz_E xs xl M (pc + len) L (.int (if b < a then b else a) :: st) w kc ks post) : rz_E xs xl M pc L (.int b :: .int a :: st) w kc ks post := by
  obtain ⟨n, r, w1, h1, h2⟩ := k
  refine ⟨n + 1, r, w1, ?_, h2⟩
  rw [rz_run, hc]
  exact (if_pos hs).trans h1
theorem ev_w {w2 : rz_W} (h : w = w2) (k : rz_E xs xl M pc L st w2 kc ks post) : rz_E xs xl M pc L st w kc ks post := h ▸ k
end RZS
theorem rz_mem2 {t a0 a1 : Nat} (h : t ∈ [a0, a1]) : t = a0 ∨ t = a1 := by simpa using h
theorem rz_mem3 {t a0 a1 a2 : Nat} (h : t ∈ [a0, a1, a2]) : t = a0 ∨ t = a1 ∨ t = a2 := by simpa using h
theorem rz_mem4 {t a0 a1 a2 a3 : Nat} (h : t ∈ [a0, a1, a2, a3]) : t = a0 ∨ t = a1 ∨ t = a2 ∨ t = a3 := by simpa using h
theorem rz_mem5 {t a0 a1 a2 a3 a4 : Nat} (h : t ∈ [a0, a1, a2, a3, a4]) : t = a0 ∨ t = a1 ∨ t = a2 ∨ t = a3 ∨ t = a4 := by simpa using h
theorem rz_mem11 {t a0 a1 a2 a3 a4 a5 a6 a7 a8 a9 a10 : Nat} (h : t ∈ [a0, a1, a2, a3, a4, a5, a6, a7, a8, a9, a10]) : t = a0 ∨ t = a1 ∨ t = a2 ∨ t = a3 ∨ t = a4 ∨ t = a5 ∨ t = a6 ∨ t = a7 ∨ t = a8 ∨ t = a9 ∨ t = a10 := by simpa using h
theorem rz_mem14 {t a0 a1 a2 a3 a4 a5 a6 a7 a8 a9 a10 a11 a12 a13 : Nat} (h : t ∈ [a0, a1, a2, a3, a4, a5, a6, a7, a8, a9, a10, a11, a12, a13]) : t = a0 ∨ t = a1 ∨ t = a2 ∨ t = a3 ∨ t = a4 ∨ t = a5 ∨ t = a6 ∨ t = a7 ∨ t = a8 ∨ t = a9 ∨ t = a10 ∨ t = a11 ∨ t = a12 ∨ t = a13 := by simpa using h
theorem rc_eq_t {a b : Int32} (h : rz_cmp .eq a b = true) : a = b := by simpa [rz_cmp] using h
theorem rc_eq_f {a b : Int32} (h : rz_cmp .eq a b = false) : ¬ a = b := by simpa [rz_cmp] using h
theorem rc_ne_t {a b : Int32} (h : rz_cmp .ne a b = true) : ¬ a = b := by simpa [rz_cmp] using h
theorem rc_ne_f {a b : Int32} (h : rz_cmp .ne a b = false) : a = b := by simpa [rz_cmp] using h
theorem rc_lt_t {a b : Int32} (h : rz_cmp .lt a b = true) : a < b := by simpa [rz_cmp] using h
theorem rc_lt_f {a b : Int32} (h : rz_cmp .lt a b = false) : ¬ a < b := by simpa [rz_cmp] using h
theorem rc_ge_t {a b : Int32} (h : rz_cmp .ge a b = true) : b ≤ a := by simpa [rz_cmp] using h
theorem rc_ge_f {a b : Int32} (h : rz_cmp .ge a b = false) : ¬ b ≤ a := by simpa [rz_cmp] using h
theorem rc_gt_t {a b : Int32} (h : rz_cmp .gt a b = true) : b < a := by simpa [rz_cmp] using h
theorem rc_gt_f {a b : Int32} (h : rz_cmp .gt a b = false) : ¬ b < a := by simpa [rz_cmp] using h
theorem rc_le_t {a b : Int32} (h : rz_cmp .le a b = true) : a ≤ b := by simpa [rz_cmp] using h
theorem rc_le_f {a b : Int32} (h : rz_cmp .le a b = false) : ¬ a ≤ b := by simpa [rz_cmp] using h
theorem rn_ge_t {n k : Nat} (hn : n < 2 ^ 31) (hk : k < 2 ^ 31) (h : rz_cmp .ge (Int32.ofNat n) (Int32.ofNat k) = true) : k ≤ n := (rz_le_iff hk hn).mp (rc_ge_t h)
theorem rn_ge_f {n k : Nat} (hn : n < 2 ^ 31) (hk : k < 2 ^ 31) (h : rz_cmp .ge (Int32.ofNat n) (Int32.ofNat k) = false) : n < k := Nat.not_le.mp fun q => rc_ge_f h ((rz_le_iff hk hn).mpr q)
theorem rn_lt_t {n k : Nat} (hn : n < 2 ^ 31) (hk : k < 2 ^ 31) (h : rz_cmp .lt (Int32.ofNat n) (Int32.ofNat k) = true) : n < k := (rz_lt_iff hn hk).mp (rc_lt_t h)
theorem rn_lt_f {n k : Nat} (hn : n < 2 ^ 31) (hk : k < 2 ^ 31) (h : rz_cmp .lt (Int32.ofNat n) (Int32.ofNat k) = false) : k ≤ n := Nat.not_lt.mp fun q => rc_lt_f h ((rz_lt_iff hn hk).mpr q)
theorem rn_gt_t {n k : Nat} (hn : n < 2 ^ 31) (hk : k < 2 ^ 31) (h : rz_cmp .gt (Int32.ofNat n) (Int32.ofNat k) = true) : k < n := (rz_lt_iff hk hn).mp (rc_gt_t h)
theorem rn_gt_f {n k : Nat} (hn : n < 2 ^ 31) (hk : k < 2 ^ 31) (h : rz_cmp .gt (Int32.ofNat n) (Int32.ofNat k) = false) : n ≤ k := Nat.not_lt.mp fun q => rc_gt_f h ((rz_lt_iff hk hn).mpr q)
theorem rn_le_t {n k : Nat} (hn : n < 2 ^ 31) (hk : k < 2 ^ 31) (h : rz_cmp .le (Int32.ofNat n) (Int32.ofNat k) = true) : n ≤ k := (rz_le_iff hn hk).mp (rc_le_t h)
theorem rn_le_f {n k : Nat} (hn : n < 2 ^ 31) (hk : k < 2 ^ 31) (h : rz_cmp .le (Int32.ofNat n) (Int32.ofNat k) = false) : k < n := Nat.not_le.mp fun q => rc_le_f h ((rz_le_iff hn hk).mpr q)
theorem ev_l {xs : Nat → Int32} {xl M pc : Nat} {L L2 : rz_L} {st : List Value} {w : rz_W} {kc ks : Nat} {post : rz_R → rz_W → Prop} (h : L = L2) (k : rz_E xs xl M pc L2 st w kc ks post) : rz_E xs xl M pc L st w kc ks post := h ▸ k
/-! the small methods of the class: numbers alone -/
section RZL
variable {xs : Nat → Int32} {xl : Nat} {v : Nat → Int32} {a : Nat → Nat → Int32} {g : Nat → Int64} {w : rz_W}
theorem c_value (x0 x1 : Int32) : rz_C xs xl 7 [.int x0, .int x1] w (fun q w' => q = .inl (some (.int ((x0 >>> (x1 * 4 &&& 31)) &&& 15))) ∧ w' = w) := by
  exact ev_ps 7 rfl (ev_ret rfl rfl ⟨rfl, rfl⟩)
theorem c_t (x0 : Int32) : rz_C xs xl 15 [.int x0] w (fun q w' => q = .inl (some (.int (x0 &&& 31))) ∧ w' = w) := by
  exact ev_ps 3 rfl (ev_ret rfl rfl ⟨rfl, rfl⟩)
theorem c_operation (x0 : Int32) : rz_C xs xl 16 [.int x0] w (fun q w' => q = .inl (some (.int (x0 >>> (9 &&& 31)))) ∧ w' = w) := by
  exact ev_ps 3 rfl (ev_ret rfl rfl ⟨rfl, rfl⟩)
theorem c_d (x0 : Int32) : rz_C xs xl 18 [.int x0] w (fun q w' => q = .inl (some (.int (x0 >>> (7 &&& 31) &&& 3))) ∧ w' = w) := by
  exact ev_ps 5 rfl (ev_ret rfl rfl ⟨rfl, rfl⟩)
theorem c_s (x0 : Int32) : rz_C xs xl 20 [.int x0] w (fun q w' => q = .inl (some (.int (x0 >>> (5 &&& 31) &&& 3))) ∧ w' = w) := by
  exact ev_ps 5 rfl (ev_ret rfl rfl ⟨rfl, rfl⟩)
theorem c_pack (x0 x1 x2 x3 : Int32) : rz_C xs xl 42 [.int x0, .int x1, .int x2, .int x3] w (fun q w' => q = .inl (some (.int (x0 <<< 9 ||| x1 <<< 7 ||| x2 <<< 5 ||| x3))) ∧ w' = w) := by
  exact ev_ps 13 rfl (ev_ret rfl rfl ⟨rfl, rfl⟩)
theorem c_withTarget (x0 x1 : Int32) : rz_C xs xl 47 [.int x0, .int x1] w (fun q w' => q = .inl (some (.int ((x0 &&& -32) ||| x1))) ∧ w' = w) := by
  exact ev_ps 5 rfl (ev_ret rfl rfl ⟨rfl, rfl⟩)
theorem c_with (x0 x1 x2 : Int32) : rz_C xs xl 38 [.int x0, .int x1, .int x2] w (fun q w' => (∃ u, q = .inl (some (.int u))) ∧ w' = w) := by
  refine ev_ps 1 rfl (ev_if (cd := .ne) rfl (fun h1 => ?_) (fun h1 => ?_))
  · exact ev_ps 17 rfl (ev_ret rfl rfl ⟨⟨_, rfl⟩, rfl⟩)
  · exact ev_ps 1 rfl (ev_ret rfl rfl ⟨⟨_, rfl⟩, rfl⟩)
theorem c_greatestT (x0 : Int32) : rz_C xs xl 52 [.int x0] w (fun q w' => (∃ u, q = .inl (some (.int u))) ∧ w' = w) := by
  refine ev_ps 2 rfl (ev_ic (cd := .gt) rfl (fun h1 => ?_) (fun h1 => ?_))
  · refine ev_ps 2 rfl (ev_ic (cd := .gt) rfl (fun h2 => ?_) (fun h2 => ?_))
    · refine ev_ps 2 rfl (ev_ic (cd := .gt) rfl (fun h3 => ?_) (fun h3 => ?_))
      · refine ev_ps 2 rfl (ev_ic (cd := .ne) rfl (fun h4 => ?_) (fun h4 => ?_))
        · exact ev_ps 1 rfl (ev_ret rfl rfl ⟨⟨_, rfl⟩, rfl⟩)
        · exact ev_ps 2 rfl (ev_ret rfl rfl ⟨⟨_, rfl⟩, rfl⟩)
      · exact ev_ps 1 rfl (ev_ret rfl rfl ⟨⟨_, rfl⟩, rfl⟩)
    · exact ev_ps 1 rfl (ev_ret rfl rfl ⟨⟨_, rfl⟩, rfl⟩)
  · exact ev_ps 1 rfl (ev_ret rfl rfl ⟨⟨_, rfl⟩, rfl⟩)
theorem c_isPlain (x0 : Int32) : rz_C xs xl 26 [.int x0] w (fun q w' => (∃ u, (u = 0 ∨ u = 1) ∧ q = .inl (some (.int u))) ∧ w' = w) := by
  refine ev_ps 1 rfl (ev_call (av := [_]) rfl rfl rfl rfl ⟨Nat.le_of_ble_eq_true rfl, rfl⟩ ⟨Nat.le_of_ble_eq_true rfl, Nat.le_of_ble_eq_true rfl⟩ (c_operation _) ?_)
  rintro _ _ ⟨rfl, rfl⟩
  refine ev_ps 1 rfl (ev_ic (cd := .gt) rfl (fun h1 => ?_) (fun h1 => ?_))
  · exact ev_ps 1 rfl (ev_ret rfl rfl ⟨⟨_, by decide, rfl⟩, rfl⟩)
  · exact ev_ps 2 rfl (ev_ret rfl rfl ⟨⟨_, by decide, rfl⟩, rfl⟩)
theorem c_endsBlock (x0 : Int32) : rz_C xs xl 28 [.int x0] w (fun q w' => (∃ u, (u = 0 ∨ u = 1) ∧ q = .inl (some (.int u))) ∧ w' = w) := by
  refine ev_ps 1 rfl (ev_call (av := [_]) rfl rfl rfl rfl ⟨Nat.le_of_ble_eq_true rfl, rfl⟩ ⟨Nat.le_of_ble_eq_true rfl, Nat.le_of_ble_eq_true rfl⟩ (c_operation _) ?_)
  rintro _ _ ⟨rfl, rfl⟩
  refine ev_ps 1 rfl (ev_ic (cd := .lt) rfl (fun h1 => ?_) (fun h1 => ?_))
  · exact ev_ps 1 rfl (ev_ret rfl rfl ⟨⟨_, by decide, rfl⟩, rfl⟩)
  · exact ev_ps 2 rfl (ev_ret rfl rfl ⟨⟨_, by decide, rfl⟩, rfl⟩)
theorem c_hasTarget (x0 : Int32) : rz_C xs xl 29 [.int x0] w (fun q w' => (∃ u, (u = 0 ∨ u = 1) ∧ q = .inl (some (.int u))) ∧ w' = w) := by
  refine ev_ps 1 rfl (ev_call (av := [_]) rfl rfl rfl rfl ⟨Nat.le_of_ble_eq_true rfl, rfl⟩ ⟨Nat.le_of_ble_eq_true rfl, Nat.le_of_ble_eq_true rfl⟩ (c_operation _) ?_)
  rintro _ _ ⟨rfl, rfl⟩
  refine ev_ps 1 rfl (ev_ic (cd := .lt) rfl (fun h1 => ?_) (fun h1 => ?_))
  · exact ev_ps 1 rfl (ev_ret rfl rfl ⟨⟨_, by decide, rfl⟩, rfl⟩)
  · refine ev_ps 1 rfl (ev_call (av := [_]) rfl rfl rfl rfl ⟨Nat.le_of_ble_eq_true rfl, rfl⟩ ⟨Nat.le_of_ble_eq_true rfl, Nat.le_of_ble_eq_true rfl⟩ (c_operation _) ?_)
    rintro _ _ ⟨rfl, rfl⟩
    refine ev_ps 1 rfl (ev_ic (cd := .gt) rfl (fun h2 => ?_) (fun h2 => ?_))
    · exact ev_ps 1 rfl (ev_ret rfl rfl ⟨⟨_, by decide, rfl⟩, rfl⟩)
    · exact ev_ps 2 rfl (ev_ret rfl rfl ⟨⟨_, by decide, rfl⟩, rfl⟩)
theorem c_hasNumber (x0 : Int32) : rz_C xs xl 41 [.int x0] w (fun q w' => (∃ u, (u = 0 ∨ u = 1) ∧ q = .inl (some (.int u))) ∧ w' = w) := by
  refine ev_ps 1 rfl (ev_call (av := [_]) rfl rfl rfl rfl ⟨Nat.le_of_ble_eq_true rfl, rfl⟩ ⟨Nat.le_of_ble_eq_true rfl, Nat.le_of_ble_eq_true rfl⟩ (c_operation _) ?_)
  rintro _ _ ⟨rfl, rfl⟩
  refine ev_ps 1 rfl (ev_ic (cd := .lt) rfl (fun h1 => ?_) (fun h1 => ?_))
  · exact ev_ps 1 rfl (ev_ret rfl rfl ⟨⟨_, by decide, rfl⟩, rfl⟩)
  · refine ev_ps 1 rfl (ev_call (av := [_]) rfl rfl rfl rfl ⟨Nat.le_of_ble_eq_true rfl, rfl⟩ ⟨Nat.le_of_ble_eq_true rfl, Nat.le_of_ble_eq_true rfl⟩ (c_operation _) ?_)
    rintro _ _ ⟨rfl, rfl⟩
    refine ev_ps 1 rfl (ev_ic (cd := .gt) rfl (fun h2 => ?_) (fun h2 => ?_))
    · exact ev_ps 1 rfl (ev_ret rfl rfl ⟨⟨_, by decide, rfl⟩, rfl⟩)
    · exact ev_ps 2 rfl (ev_ret rfl rfl ⟨⟨_, by decide, rfl⟩, rfl⟩)
theorem c_isLegal (x0 x1 x2 x3 : Int32) : rz_C xs xl 51 [.int x0, .int x1, .int x2, .int x3] w (fun q w' => (∃ u, (u = 0 ∨ u = 1) ∧ q = .inl (some (.int u))) ∧ w' = w) := by
  refine ev_ps 1 rfl (ev_if (cd := .lt) rfl (fun h1 => ?_) (fun h1 => ?_))
  · exact ev_ps 1 rfl (ev_ret rfl rfl ⟨⟨_, by decide, rfl⟩, rfl⟩)
  · refine ev_ps 2 rfl (ev_ic (cd := .le) rfl (fun h2 => ?_) (fun h2 => ?_))
    · refine ev_ps 2 rfl (ev_ic (cd := .lt) rfl (fun h3 => ?_) (fun h3 => ?_))
      · refine ev_ps 3 rfl (ev_if (cd := .lt) rfl (fun h4 => ?_) (fun h4 => ?_))
        · exact ev_ps 1 rfl (ev_ret rfl rfl ⟨⟨_, by decide, rfl⟩, rfl⟩)
        · refine ev_ps 2 rfl (ev_ic (cd := .gt) rfl (fun h5 => ?_) (fun h5 => ?_))
          · exact ev_ps 1 rfl (ev_ret rfl rfl ⟨⟨_, by decide, rfl⟩, rfl⟩)
          · refine ev_ps 1 rfl (ev_if (cd := .lt) rfl (fun h6 => ?_) (fun h6 => ?_))
            · exact ev_ps 1 rfl (ev_ret rfl rfl ⟨⟨_, by decide, rfl⟩, rfl⟩)
            · refine ev_ps 2 rfl (ev_ic (cd := .gt) rfl (fun h7 => ?_) (fun h7 => ?_))
              · exact ev_ps 1 rfl (ev_ret rfl rfl ⟨⟨_, by decide, rfl⟩, rfl⟩)
              · refine ev_ps 1 rfl (ev_if (cd := .lt) rfl (fun h8 => ?_) (fun h8 => ?_))
                · exact ev_ps 1 rfl (ev_ret rfl rfl ⟨⟨_, by decide, rfl⟩, rfl⟩)
                · refine ev_ps 2 rfl (ev_call (av := [_]) rfl rfl rfl rfl ⟨Nat.le_of_ble_eq_true rfl, rfl⟩ ⟨Nat.le_of_ble_eq_true rfl, Nat.le_of_ble_eq_true rfl⟩ (c_greatestT _) ?_)
                  rintro _ _ ⟨⟨u, rfl⟩, rfl⟩
                  refine ev_ic (cd := .gt) rfl (fun h9 => ?_) (fun h9 => ?_)
                  · exact ev_ps 1 rfl (ev_ret rfl rfl ⟨⟨_, by decide, rfl⟩, rfl⟩)
                  · exact ev_ps 2 rfl (ev_ret rfl rfl ⟨⟨_, by decide, rfl⟩, rfl⟩)
      · refine ev_ps 4 rfl (ev_if (cd := .lt) rfl (fun h10 => ?_) (fun h10 => ?_))
        · exact ev_ps 1 rfl (ev_ret rfl rfl ⟨⟨_, by decide, rfl⟩, rfl⟩)
        · refine ev_ps 2 rfl (ev_ic (cd := .gt) rfl (fun h11 => ?_) (fun h11 => ?_))
          · exact ev_ps 1 rfl (ev_ret rfl rfl ⟨⟨_, by decide, rfl⟩, rfl⟩)
          · refine ev_ps 1 rfl (ev_if (cd := .lt) rfl (fun h12 => ?_) (fun h12 => ?_))
            · exact ev_ps 1 rfl (ev_ret rfl rfl ⟨⟨_, by decide, rfl⟩, rfl⟩)
            · refine ev_ps 2 rfl (ev_ic (cd := .gt) rfl (fun h13 => ?_) (fun h13 => ?_))
              · exact ev_ps 1 rfl (ev_ret rfl rfl ⟨⟨_, by decide, rfl⟩, rfl⟩)
              · refine ev_ps 1 rfl (ev_if (cd := .lt) rfl (fun h14 => ?_) (fun h14 => ?_))
                · exact ev_ps 1 rfl (ev_ret rfl rfl ⟨⟨_, by decide, rfl⟩, rfl⟩)
                · refine ev_ps 2 rfl (ev_call (av := [_]) rfl rfl rfl rfl ⟨Nat.le_of_ble_eq_true rfl, rfl⟩ ⟨Nat.le_of_ble_eq_true rfl, Nat.le_of_ble_eq_true rfl⟩ (c_greatestT _) ?_)
                  rintro _ _ ⟨⟨u, rfl⟩, rfl⟩
                  refine ev_ic (cd := .gt) rfl (fun h15 => ?_) (fun h15 => ?_)
                  · exact ev_ps 1 rfl (ev_ret rfl rfl ⟨⟨_, by decide, rfl⟩, rfl⟩)
                  · exact ev_ps 2 rfl (ev_ret rfl rfl ⟨⟨_, by decide, rfl⟩, rfl⟩)
    · exact ev_ps 1 rfl (ev_ret rfl rfl ⟨⟨_, by decide, rfl⟩, rfl⟩)
theorem c_writtenBy (x0 : Int32) : rz_C xs xl 17 [.int x0] w (fun q w' => (∃ u, q = .inl (some (.int u))) ∧ w' = w) := by
  refine ev_ps 1 rfl (ev_call (av := [_]) rfl rfl rfl rfl ⟨Nat.le_of_ble_eq_true rfl, rfl⟩ ⟨Nat.le_of_ble_eq_true rfl, Nat.le_of_ble_eq_true rfl⟩ (c_operation _) ?_)
  rintro _ _ ⟨rfl, rfl⟩
  refine ev_ps 1 rfl (ev_ic (cd := .gt) rfl (fun h1 => ?_) (fun h1 => ?_))
  · exact ev_ps 1 rfl (ev_ret rfl rfl ⟨⟨_, rfl⟩, rfl⟩)
  · refine ev_ps 2 rfl (ev_call (av := [_]) rfl rfl rfl rfl ⟨Nat.le_of_ble_eq_true rfl, rfl⟩ ⟨Nat.le_of_ble_eq_true rfl, Nat.le_of_ble_eq_true rfl⟩ (c_d _) ?_)
    rintro _ _ ⟨rfl, rfl⟩
    exact ev_ps 2 rfl (ev_ret rfl rfl ⟨⟨_, rfl⟩, rfl⟩)
theorem c_readBy (x0 : Int32) : rz_C xs xl 19 [.int x0] w (fun q w' => (∃ u, q = .inl (some (.int u))) ∧ w' = w) := by
  refine ev_ps 1 rfl (ev_call (av := [_]) rfl rfl rfl rfl ⟨Nat.le_of_ble_eq_true rfl, rfl⟩ ⟨Nat.le_of_ble_eq_true rfl, Nat.le_of_ble_eq_true rfl⟩ (c_operation _) ?_)
  rintro _ _ ⟨rfl, rfl⟩
  refine ev_ps 3 rfl (ev_ic (cd := .gt) rfl (fun h1 => ?_) (fun h1 => ?_))
  · refine ev_ps 2 rfl (ev_ic (cd := .gt) rfl (fun h2 => ?_) (fun h2 => ?_))
    · refine ev_ps 2 rfl (ev_ic (cd := .gt) rfl (fun h3 => ?_) (fun h3 => ?_))
      · refine ev_ps 2 rfl (ev_ic (cd := .ne) rfl (fun h4 => ?_) (fun h4 => ?_))
        · exact ev_ps 1 rfl (ev_ret rfl rfl ⟨⟨_, rfl⟩, rfl⟩)
        · exact ev_ps 2 rfl (ev_ret rfl rfl ⟨⟨_, rfl⟩, rfl⟩)
      · refine ev_ps 2 rfl (ev_call (av := [_]) rfl rfl rfl rfl ⟨Nat.le_of_ble_eq_true rfl, rfl⟩ ⟨Nat.le_of_ble_eq_true rfl, Nat.le_of_ble_eq_true rfl⟩ (c_d _) ?_)
        rintro _ _ ⟨rfl, rfl⟩
        refine ev_ps 3 rfl (ev_call (av := [_]) rfl rfl rfl rfl ⟨Nat.le_of_ble_eq_true rfl, rfl⟩ ⟨Nat.le_of_ble_eq_true rfl, Nat.le_of_ble_eq_true rfl⟩ (c_s _) ?_)
        rintro _ _ ⟨rfl, rfl⟩
        exact ev_ps 2 rfl (ev_ret rfl rfl ⟨⟨_, rfl⟩, rfl⟩)
    · refine ev_ps 2 rfl (ev_call (av := [_]) rfl rfl rfl rfl ⟨Nat.le_of_ble_eq_true rfl, rfl⟩ ⟨Nat.le_of_ble_eq_true rfl, Nat.le_of_ble_eq_true rfl⟩ (c_s _) ?_)
      rintro _ _ ⟨rfl, rfl⟩
      exact ev_ps 1 rfl (ev_ret rfl rfl ⟨⟨_, rfl⟩, rfl⟩)
  · refine ev_ps 2 rfl (ev_call (av := [_]) rfl rfl rfl rfl ⟨Nat.le_of_ble_eq_true rfl, rfl⟩ ⟨Nat.le_of_ble_eq_true rfl, Nat.le_of_ble_eq_true rfl⟩ (c_s _) ?_)
    rintro _ _ ⟨rfl, rfl⟩
    refine ev_ps 3 rfl (ev_call (av := [_]) rfl rfl rfl rfl ⟨Nat.le_of_ble_eq_true rfl, rfl⟩ ⟨Nat.le_of_ble_eq_true rfl, Nat.le_of_ble_eq_true rfl⟩ (c_t _) ?_)
    rintro _ _ ⟨rfl, rfl⟩
    exact ev_ps 2 rfl (ev_ret rfl rfl ⟨⟨_, rfl⟩, rfl⟩)
theorem c_part (x0 x1 : Int32) : rz_C xs xl 58 [.int x0, .int x1] w (fun q w' => (∃ u, q = .inl (some (.int u))) ∧ w' = w) := by
  refine ev_ps 1 rfl (ev_tsw rfl (fun t ht => ?_))
  rcases rz_mem4 ht with rfl | rfl | rfl | rfl
  · refine ev_ps 1 rfl (ev_call (av := [_]) rfl rfl rfl rfl ⟨Nat.le_of_ble_eq_true rfl, rfl⟩ ⟨Nat.le_of_ble_eq_true rfl, Nat.le_of_ble_eq_true rfl⟩ (c_t _) ?_)
    rintro _ _ ⟨rfl, rfl⟩
    exact ev_ret rfl rfl ⟨⟨_, rfl⟩, rfl⟩
  · refine ev_ps 1 rfl (ev_call (av := [_]) rfl rfl rfl rfl ⟨Nat.le_of_ble_eq_true rfl, rfl⟩ ⟨Nat.le_of_ble_eq_true rfl, Nat.le_of_ble_eq_true rfl⟩ (c_operation _) ?_)
    rintro _ _ ⟨rfl, rfl⟩
    exact ev_ret rfl rfl ⟨⟨_, rfl⟩, rfl⟩
  · refine ev_ps 1 rfl (ev_call (av := [_]) rfl rfl rfl rfl ⟨Nat.le_of_ble_eq_true rfl, rfl⟩ ⟨Nat.le_of_ble_eq_true rfl, Nat.le_of_ble_eq_true rfl⟩ (c_d _) ?_)
    rintro _ _ ⟨rfl, rfl⟩
    exact ev_ret rfl rfl ⟨⟨_, rfl⟩, rfl⟩
  · refine ev_ps 1 rfl (ev_call (av := [_]) rfl rfl rfl rfl ⟨Nat.le_of_ble_eq_true rfl, rfl⟩ ⟨Nat.le_of_ble_eq_true rfl, Nat.le_of_ble_eq_true rfl⟩ (c_s _) ?_)
    rintro _ _ ⟨rfl, rfl⟩
    exact ev_ret rfl rfl ⟨⟨_, rfl⟩, rfl⟩
theorem c_regsAfter (x0 x1 : Int32) : rz_C xs xl 37 [.int x0, .int x1] w (fun q w' => (∃ u, q = .inl (some (.int u))) ∧ w' = w) := by
  refine ev_ps 1 rfl (ev_call (av := [_]) rfl rfl rfl rfl ⟨Nat.le_of_ble_eq_true rfl, rfl⟩ ⟨Nat.le_of_ble_eq_true rfl, Nat.le_of_ble_eq_true rfl⟩ (c_operation _) ?_)
  rintro _ _ ⟨rfl, rfl⟩
  refine ev_ps 3 rfl (ev_call (av := [_]) rfl rfl rfl rfl ⟨Nat.le_of_ble_eq_true rfl, rfl⟩ ⟨Nat.le_of_ble_eq_true rfl, Nat.le_of_ble_eq_true rfl⟩ (c_s _) ?_)
  rintro _ _ ⟨rfl, rfl⟩
  refine ev_call (av := [_, _]) rfl rfl rfl rfl ⟨Nat.le_of_ble_eq_true rfl, rfl⟩ ⟨Nat.le_of_ble_eq_true rfl, Nat.le_of_ble_eq_true rfl⟩ (c_value _ _) ?_
  rintro _ _ ⟨rfl, rfl⟩
  refine ev_ps 3 rfl (ev_ic (cd := .gt) rfl (fun h1 => ?_) (fun h1 => ?_))
  · refine ev_ps 1 rfl (ev_call (av := [_]) rfl rfl rfl rfl ⟨Nat.le_of_ble_eq_true rfl, rfl⟩ ⟨Nat.le_of_ble_eq_true rfl, Nat.le_of_ble_eq_true rfl⟩ (c_t _) ?_)
    rintro _ _ ⟨rfl, rfl⟩
    refine ev_ps 2 rfl (ev_tsw rfl (fun t ht => ?_))
    rcases rz_mem11 ht with rfl | rfl | rfl | rfl | rfl | rfl | rfl | rfl | rfl | rfl | rfl
    · exact ev_ps 1 rfl (ev_ret rfl rfl ⟨⟨_, rfl⟩, rfl⟩)
    · refine ev_ps 7 rfl (ev_call (av := [_]) rfl rfl rfl rfl ⟨Nat.le_of_ble_eq_true rfl, rfl⟩ ⟨Nat.le_of_ble_eq_true rfl, Nat.le_of_ble_eq_true rfl⟩ (c_d _) ?_)
      rintro _ _ ⟨rfl, rfl⟩
      refine ev_ps 1 rfl (ev_call (av := [_, _, _]) rfl rfl rfl rfl ⟨Nat.le_of_ble_eq_true rfl, rfl⟩ ⟨Nat.le_of_ble_eq_true rfl, Nat.le_of_ble_eq_true rfl⟩ (c_with _ _ _) ?_)
      rintro _ _ ⟨⟨u, rfl⟩, rfl⟩
      exact ev_ret rfl rfl ⟨⟨_, rfl⟩, rfl⟩
    · refine ev_ps 7 rfl (ev_call (av := [_]) rfl rfl rfl rfl ⟨Nat.le_of_ble_eq_true rfl, rfl⟩ ⟨Nat.le_of_ble_eq_true rfl, Nat.le_of_ble_eq_true rfl⟩ (c_d _) ?_)
      rintro _ _ ⟨rfl, rfl⟩
      refine ev_ps 1 rfl (ev_call (av := [_, _, _]) rfl rfl rfl rfl ⟨Nat.le_of_ble_eq_true rfl, rfl⟩ ⟨Nat.le_of_ble_eq_true rfl, Nat.le_of_ble_eq_true rfl⟩ (c_with _ _ _) ?_)
      rintro _ _ ⟨⟨u, rfl⟩, rfl⟩
      exact ev_ret rfl rfl ⟨⟨_, rfl⟩, rfl⟩
    · refine ev_ps 7 rfl (ev_call (av := [_]) rfl rfl rfl rfl ⟨Nat.le_of_ble_eq_true rfl, rfl⟩ ⟨Nat.le_of_ble_eq_true rfl, Nat.le_of_ble_eq_true rfl⟩ (c_d _) ?_)
      rintro _ _ ⟨rfl, rfl⟩
      refine ev_ps 1 rfl (ev_call (av := [_, _, _]) rfl rfl rfl rfl ⟨Nat.le_of_ble_eq_true rfl, rfl⟩ ⟨Nat.le_of_ble_eq_true rfl, Nat.le_of_ble_eq_true rfl⟩ (c_with _ _ _) ?_)
      rintro _ _ ⟨⟨u, rfl⟩, rfl⟩
      exact ev_ret rfl rfl ⟨⟨_, rfl⟩, rfl⟩
    · refine ev_ps 7 rfl (ev_call (av := [_]) rfl rfl rfl rfl ⟨Nat.le_of_ble_eq_true rfl, rfl⟩ ⟨Nat.le_of_ble_eq_true rfl, Nat.le_of_ble_eq_true rfl⟩ (c_d _) ?_)
      rintro _ _ ⟨rfl, rfl⟩
      refine ev_ps 1 rfl (ev_call (av := [_, _, _]) rfl rfl rfl rfl ⟨Nat.le_of_ble_eq_true rfl, rfl⟩ ⟨Nat.le_of_ble_eq_true rfl, Nat.le_of_ble_eq_true rfl⟩ (c_with _ _ _) ?_)
      rintro _ _ ⟨⟨u, rfl⟩, rfl⟩
      exact ev_ret rfl rfl ⟨⟨_, rfl⟩, rfl⟩
    · refine ev_ps 7 rfl (ev_call (av := [_]) rfl rfl rfl rfl ⟨Nat.le_of_ble_eq_true rfl, rfl⟩ ⟨Nat.le_of_ble_eq_true rfl, Nat.le_of_ble_eq_true rfl⟩ (c_d _) ?_)
      rintro _ _ ⟨rfl, rfl⟩
      refine ev_ps 1 rfl (ev_call (av := [_, _, _]) rfl rfl rfl rfl ⟨Nat.le_of_ble_eq_true rfl, rfl⟩ ⟨Nat.le_of_ble_eq_true rfl, Nat.le_of_ble_eq_true rfl⟩ (c_with _ _ _) ?_)
      rintro _ _ ⟨⟨u, rfl⟩, rfl⟩
      exact ev_ret rfl rfl ⟨⟨_, rfl⟩, rfl⟩
    · refine ev_ps 2 rfl (ev_ic (cd := .ge) rfl (fun h2 => ?_) (fun h2 => ?_))
      · refine ev_ps 5 rfl (ev_call (av := [_]) rfl rfl rfl rfl ⟨Nat.le_of_ble_eq_true rfl, rfl⟩ ⟨Nat.le_of_ble_eq_true rfl, Nat.le_of_ble_eq_true rfl⟩ (c_d _) ?_)
        rintro _ _ ⟨rfl, rfl⟩
        refine ev_ps 1 rfl (ev_call (av := [_, _, _]) rfl rfl rfl rfl ⟨Nat.le_of_ble_eq_true rfl, rfl⟩ ⟨Nat.le_of_ble_eq_true rfl, Nat.le_of_ble_eq_true rfl⟩ (c_with _ _ _) ?_)
        rintro _ _ ⟨⟨u, rfl⟩, rfl⟩
        exact ev_ret rfl rfl ⟨⟨_, rfl⟩, rfl⟩
      · refine ev_ps 6 rfl (ev_call (av := [_]) rfl rfl rfl rfl ⟨Nat.le_of_ble_eq_true rfl, rfl⟩ ⟨Nat.le_of_ble_eq_true rfl, Nat.le_of_ble_eq_true rfl⟩ (c_d _) ?_)
        rintro _ _ ⟨rfl, rfl⟩
        refine ev_ps 1 rfl (ev_call (av := [_, _, _]) rfl rfl rfl rfl ⟨Nat.le_of_ble_eq_true rfl, rfl⟩ ⟨Nat.le_of_ble_eq_true rfl, Nat.le_of_ble_eq_true rfl⟩ (c_with _ _ _) ?_)
        rintro _ _ ⟨⟨u, rfl⟩, rfl⟩
        exact ev_ret rfl rfl ⟨⟨_, rfl⟩, rfl⟩
    · refine ev_ps 7 rfl (ev_call (av := [_]) rfl rfl rfl rfl ⟨Nat.le_of_ble_eq_true rfl, rfl⟩ ⟨Nat.le_of_ble_eq_true rfl, Nat.le_of_ble_eq_true rfl⟩ (c_d _) ?_)
      rintro _ _ ⟨rfl, rfl⟩
      refine ev_ps 1 rfl (ev_call (av := [_, _, _]) rfl rfl rfl rfl ⟨Nat.le_of_ble_eq_true rfl, rfl⟩ ⟨Nat.le_of_ble_eq_true rfl, Nat.le_of_ble_eq_true rfl⟩ (c_with _ _ _) ?_)
      rintro _ _ ⟨⟨u, rfl⟩, rfl⟩
      exact ev_ret rfl rfl ⟨⟨_, rfl⟩, rfl⟩
    · refine ev_ps 7 rfl (ev_call (av := [_]) rfl rfl rfl rfl ⟨Nat.le_of_ble_eq_true rfl, rfl⟩ ⟨Nat.le_of_ble_eq_true rfl, Nat.le_of_ble_eq_true rfl⟩ (c_d _) ?_)
      rintro _ _ ⟨rfl, rfl⟩
      refine ev_ps 1 rfl (ev_call (av := [_, _, _]) rfl rfl rfl rfl ⟨Nat.le_of_ble_eq_true rfl, rfl⟩ ⟨Nat.le_of_ble_eq_true rfl, Nat.le_of_ble_eq_true rfl⟩ (c_with _ _ _) ?_)
      rintro _ _ ⟨⟨u, rfl⟩, rfl⟩
      exact ev_ret rfl rfl ⟨⟨_, rfl⟩, rfl⟩
    · refine ev_ps 7 rfl (ev_call (av := [_]) rfl rfl rfl rfl ⟨Nat.le_of_ble_eq_true rfl, rfl⟩ ⟨Nat.le_of_ble_eq_true rfl, Nat.le_of_ble_eq_true rfl⟩ (c_d _) ?_)
      rintro _ _ ⟨rfl, rfl⟩
      refine ev_ps 1 rfl (ev_call (av := [_, _, _]) rfl rfl rfl rfl ⟨Nat.le_of_ble_eq_true rfl, rfl⟩ ⟨Nat.le_of_ble_eq_true rfl, Nat.le_of_ble_eq_true rfl⟩ (c_with _ _ _) ?_)
      rintro _ _ ⟨⟨u, rfl⟩, rfl⟩
      exact ev_ret rfl rfl ⟨⟨_, rfl⟩, rfl⟩
    · refine ev_ps 7 rfl (ev_call (av := [_]) rfl rfl rfl rfl ⟨Nat.le_of_ble_eq_true rfl, rfl⟩ ⟨Nat.le_of_ble_eq_true rfl, Nat.le_of_ble_eq_true rfl⟩ (c_d _) ?_)
      rintro _ _ ⟨rfl, rfl⟩
      refine ev_ps 1 rfl (ev_call (av := [_, _, _]) rfl rfl rfl rfl ⟨Nat.le_of_ble_eq_true rfl, rfl⟩ ⟨Nat.le_of_ble_eq_true rfl, Nat.le_of_ble_eq_true rfl⟩ (c_with _ _ _) ?_)
      rintro _ _ ⟨⟨u, rfl⟩, rfl⟩
      exact ev_ret rfl rfl ⟨⟨_, rfl⟩, rfl⟩
  · refine ev_ps 2 rfl (ev_call (av := [_]) rfl rfl rfl rfl ⟨Nat.le_of_ble_eq_true rfl, rfl⟩ ⟨Nat.le_of_ble_eq_true rfl, Nat.le_of_ble_eq_true rfl⟩ (c_t _) ?_)
    rintro _ _ ⟨rfl, rfl⟩
    refine ev_call (av := [_, _]) rfl rfl rfl rfl ⟨Nat.le_of_ble_eq_true rfl, rfl⟩ ⟨Nat.le_of_ble_eq_true rfl, Nat.le_of_ble_eq_true rfl⟩ (c_value _ _) ?_
    rintro _ _ ⟨rfl, rfl⟩
    refine ev_ps 3 rfl (ev_tsw rfl (fun t ht => ?_))
    rcases rz_mem11 ht with rfl | rfl | rfl | rfl | rfl | rfl | rfl | rfl | rfl | rfl | rfl
    · exact ev_ps 1 rfl (ev_ret rfl rfl ⟨⟨_, rfl⟩, rfl⟩)
    · refine ev_ps 7 rfl (ev_call (av := [_]) rfl rfl rfl rfl ⟨Nat.le_of_ble_eq_true rfl, rfl⟩ ⟨Nat.le_of_ble_eq_true rfl, Nat.le_of_ble_eq_true rfl⟩ (c_d _) ?_)
      rintro _ _ ⟨rfl, rfl⟩
      refine ev_ps 1 rfl (ev_call (av := [_, _, _]) rfl rfl rfl rfl ⟨Nat.le_of_ble_eq_true rfl, rfl⟩ ⟨Nat.le_of_ble_eq_true rfl, Nat.le_of_ble_eq_true rfl⟩ (c_with _ _ _) ?_)
      rintro _ _ ⟨⟨u, rfl⟩, rfl⟩
      exact ev_ret rfl rfl ⟨⟨_, rfl⟩, rfl⟩
    · refine ev_ps 7 rfl (ev_call (av := [_]) rfl rfl rfl rfl ⟨Nat.le_of_ble_eq_true rfl, rfl⟩ ⟨Nat.le_of_ble_eq_true rfl, Nat.le_of_ble_eq_true rfl⟩ (c_d _) ?_)
      rintro _ _ ⟨rfl, rfl⟩
      refine ev_ps 1 rfl (ev_call (av := [_, _, _]) rfl rfl rfl rfl ⟨Nat.le_of_ble_eq_true rfl, rfl⟩ ⟨Nat.le_of_ble_eq_true rfl, Nat.le_of_ble_eq_true rfl⟩ (c_with _ _ _) ?_)
      rintro _ _ ⟨⟨u, rfl⟩, rfl⟩
      exact ev_ret rfl rfl ⟨⟨_, rfl⟩, rfl⟩
    · refine ev_ps 7 rfl (ev_call (av := [_]) rfl rfl rfl rfl ⟨Nat.le_of_ble_eq_true rfl, rfl⟩ ⟨Nat.le_of_ble_eq_true rfl, Nat.le_of_ble_eq_true rfl⟩ (c_d _) ?_)
      rintro _ _ ⟨rfl, rfl⟩
      refine ev_ps 1 rfl (ev_call (av := [_, _, _]) rfl rfl rfl rfl ⟨Nat.le_of_ble_eq_true rfl, rfl⟩ ⟨Nat.le_of_ble_eq_true rfl, Nat.le_of_ble_eq_true rfl⟩ (c_with _ _ _) ?_)
      rintro _ _ ⟨⟨u, rfl⟩, rfl⟩
      exact ev_ret rfl rfl ⟨⟨_, rfl⟩, rfl⟩
    · refine ev_ps 7 rfl (ev_call (av := [_]) rfl rfl rfl rfl ⟨Nat.le_of_ble_eq_true rfl, rfl⟩ ⟨Nat.le_of_ble_eq_true rfl, Nat.le_of_ble_eq_true rfl⟩ (c_d _) ?_)
      rintro _ _ ⟨rfl, rfl⟩
      refine ev_ps 1 rfl (ev_call (av := [_, _, _]) rfl rfl rfl rfl ⟨Nat.le_of_ble_eq_true rfl, rfl⟩ ⟨Nat.le_of_ble_eq_true rfl, Nat.le_of_ble_eq_true rfl⟩ (c_with _ _ _) ?_)
      rintro _ _ ⟨⟨u, rfl⟩, rfl⟩
      exact ev_ret rfl rfl ⟨⟨_, rfl⟩, rfl⟩
    · refine ev_ps 7 rfl (ev_call (av := [_]) rfl rfl rfl rfl ⟨Nat.le_of_ble_eq_true rfl, rfl⟩ ⟨Nat.le_of_ble_eq_true rfl, Nat.le_of_ble_eq_true rfl⟩ (c_d _) ?_)
      rintro _ _ ⟨rfl, rfl⟩
      refine ev_ps 1 rfl (ev_call (av := [_, _, _]) rfl rfl rfl rfl ⟨Nat.le_of_ble_eq_true rfl, rfl⟩ ⟨Nat.le_of_ble_eq_true rfl, Nat.le_of_ble_eq_true rfl⟩ (c_with _ _ _) ?_)
      rintro _ _ ⟨⟨u, rfl⟩, rfl⟩
      exact ev_ret rfl rfl ⟨⟨_, rfl⟩, rfl⟩
    · refine ev_ps 2 rfl (ev_ic (cd := .ge) rfl (fun h3 => ?_) (fun h3 => ?_))
      · refine ev_ps 5 rfl (ev_call (av := [_]) rfl rfl rfl rfl ⟨Nat.le_of_ble_eq_true rfl, rfl⟩ ⟨Nat.le_of_ble_eq_true rfl, Nat.le_of_ble_eq_true rfl⟩ (c_d _) ?_)
        rintro _ _ ⟨rfl, rfl⟩
        refine ev_ps 1 rfl (ev_call (av := [_, _, _]) rfl rfl rfl rfl ⟨Nat.le_of_ble_eq_true rfl, rfl⟩ ⟨Nat.le_of_ble_eq_true rfl, Nat.le_of_ble_eq_true rfl⟩ (c_with _ _ _) ?_)
        rintro _ _ ⟨⟨u, rfl⟩, rfl⟩
        exact ev_ret rfl rfl ⟨⟨_, rfl⟩, rfl⟩
      · refine ev_ps 6 rfl (ev_call (av := [_]) rfl rfl rfl rfl ⟨Nat.le_of_ble_eq_true rfl, rfl⟩ ⟨Nat.le_of_ble_eq_true rfl, Nat.le_of_ble_eq_true rfl⟩ (c_d _) ?_)
        rintro _ _ ⟨rfl, rfl⟩
        refine ev_ps 1 rfl (ev_call (av := [_, _, _]) rfl rfl rfl rfl ⟨Nat.le_of_ble_eq_true rfl, rfl⟩ ⟨Nat.le_of_ble_eq_true rfl, Nat.le_of_ble_eq_true rfl⟩ (c_with _ _ _) ?_)
        rintro _ _ ⟨⟨u, rfl⟩, rfl⟩
        exact ev_ret rfl rfl ⟨⟨_, rfl⟩, rfl⟩
    · refine ev_ps 7 rfl (ev_call (av := [_]) rfl rfl rfl rfl ⟨Nat.le_of_ble_eq_true rfl, rfl⟩ ⟨Nat.le_of_ble_eq_true rfl, Nat.le_of_ble_eq_true rfl⟩ (c_d _) ?_)
      rintro _ _ ⟨rfl, rfl⟩
      refine ev_ps 1 rfl (ev_call (av := [_, _, _]) rfl rfl rfl rfl ⟨Nat.le_of_ble_eq_true rfl, rfl⟩ ⟨Nat.le_of_ble_eq_true rfl, Nat.le_of_ble_eq_true rfl⟩ (c_with _ _ _) ?_)
      rintro _ _ ⟨⟨u, rfl⟩, rfl⟩
      exact ev_ret rfl rfl ⟨⟨_, rfl⟩, rfl⟩
    · refine ev_ps 7 rfl (ev_call (av := [_]) rfl rfl rfl rfl ⟨Nat.le_of_ble_eq_true rfl, rfl⟩ ⟨Nat.le_of_ble_eq_true rfl, Nat.le_of_ble_eq_true rfl⟩ (c_d _) ?_)
      rintro _ _ ⟨rfl, rfl⟩
      refine ev_ps 1 rfl (ev_call (av := [_, _, _]) rfl rfl rfl rfl ⟨Nat.le_of_ble_eq_true rfl, rfl⟩ ⟨Nat.le_of_ble_eq_true rfl, Nat.le_of_ble_eq_true rfl⟩ (c_with _ _ _) ?_)
      rintro _ _ ⟨⟨u, rfl⟩, rfl⟩
      exact ev_ret rfl rfl ⟨⟨_, rfl⟩, rfl⟩
    · refine ev_ps 7 rfl (ev_call (av := [_]) rfl rfl rfl rfl ⟨Nat.le_of_ble_eq_true rfl, rfl⟩ ⟨Nat.le_of_ble_eq_true rfl, Nat.le_of_ble_eq_true rfl⟩ (c_d _) ?_)
      rintro _ _ ⟨rfl, rfl⟩
      refine ev_ps 1 rfl (ev_call (av := [_, _, _]) rfl rfl rfl rfl ⟨Nat.le_of_ble_eq_true rfl, rfl⟩ ⟨Nat.le_of_ble_eq_true rfl, Nat.le_of_ble_eq_true rfl⟩ (c_with _ _ _) ?_)
      rintro _ _ ⟨⟨u, rfl⟩, rfl⟩
      exact ev_ret rfl rfl ⟨⟨_, rfl⟩, rfl⟩
    · refine ev_ps 7 rfl (ev_call (av := [_]) rfl rfl rfl rfl ⟨Nat.le_of_ble_eq_true rfl, rfl⟩ ⟨Nat.le_of_ble_eq_true rfl, Nat.le_of_ble_eq_true rfl⟩ (c_d _) ?_)
      rintro _ _ ⟨rfl, rfl⟩
      refine ev_ps 1 rfl (ev_call (av := [_, _, _]) rfl rfl rfl rfl ⟨Nat.le_of_ble_eq_true rfl, rfl⟩ ⟨Nat.le_of_ble_eq_true rfl, Nat.le_of_ble_eq_true rfl⟩ (c_with _ _ _) ?_)
      rintro _ _ ⟨⟨u, rfl⟩, rfl⟩
      exact ev_ret rfl rfl ⟨⟨_, rfl⟩, rfl⟩
end RZL
/-! the class's Program (place 1; its array at 2): v 0 is its length -/
section RZP1
variable {xs : Nat → Int32} {xl : Nat} {v : Nat → Int32} {a : Nat → Nat → Int32} {g : Nat → Int64}
def rz_bo (w : rz_W) (P : Prop) : rz_R → rz_W → Prop := fun q w' => (∃ u : Int32, (u = 0 ∨ u = 1) ∧ (u = 1 → P) ∧ q = .inl (some (.int u))) ∧ w' = w
theorem rz_bo0 {w : rz_W} {P : Prop} : rz_bo w P (.inl (some (.int 0))) w := ⟨⟨0, Or.inl rfl, fun h => absurd h (by decide), rfl⟩, rfl⟩
theorem rz_bo1 {w : rz_W} {P : Prop} (h : P) : rz_bo w P (.inl (some (.int 1))) w := ⟨⟨1, Or.inr rfl, fun _ => h, rfl⟩, rfl⟩
theorem c_length : rz_C xs xl 4 [.ref 1] (rz_w v a g) (fun r w' => r = .inl (some (.int (v 0))) ∧ w' = rz_w v a g) :=
  ev_ps 2 rfl (ev_ret rfl rfl ⟨rfl, rfl⟩)
theorem c_empty : rz_C xs xl 2 [.ref 1] (rz_w v a g) (fun r w' => r = .inl (some (.int (v 0))) ∧ w' = rz_w (rz_up v 0 0) a g) := by
  refine ev_ps 6 rfl ?_
  exact ev_ps 1 rfl (ev_ret rfl rfl ⟨rfl, rfl⟩)
theorem c_has (x : Int32) : rz_C xs xl 21 [.ref 1, .int x] (rz_w v a g) (rz_bo (rz_w v a g) (¬ x < 0 ∧ x < v 0)) := by
  refine ev_ps 1 rfl (ev_if (cd := .lt) rfl (fun h1 => ?_) (fun h1 => ?_))
  · exact ev_ps 1 rfl (ev_ret rfl rfl rz_bo0)
  · refine ev_ps 3 rfl (ev_ic (cd := .ge) rfl (fun h2 => ?_) (fun h2 => ?_))
    · exact ev_ps 1 rfl (ev_ret rfl rfl rz_bo0)
    · exact ev_ps 2 rfl (ev_ret rfl rfl (rz_bo1 ⟨rc_lt_f h1, Int32.not_le.mp (rc_ge_f h2)⟩))
theorem c_hasAll (x n : Int32) : rz_C xs xl 24 [.ref 1, .int x, .int n] (rz_w v a g) (rz_bo (rz_w v a g) (n = 0 ∨ (¬ x < 0 ∧ ¬ v 0 - n < x))) := by
  refine ev_ps 1 rfl (ev_if (cd := .eq) rfl (fun h1 => ?_) (fun h1 => ?_))
  · exact ev_ps 2 rfl (ev_ret rfl rfl (rz_bo1 (Or.inl (rc_eq_t h1))))
  · refine ev_ps 1 rfl (ev_if (cd := .lt) rfl (fun h2 => ?_) (fun h2 => ?_))
    · exact ev_ps 1 rfl (ev_ret rfl rfl rz_bo0)
    · refine ev_ps 5 rfl (ev_ic (cd := .gt) rfl (fun h3 => ?_) (fun h3 => ?_))
      · exact ev_ps 1 rfl (ev_ret rfl rfl rz_bo0)
      · exact ev_ps 2 rfl (ev_ret rfl rfl (rz_bo1 (Or.inr ⟨rc_lt_f h2, rc_gt_f h3⟩)))
theorem c_isFull : rz_C xs xl 53 [.ref 1] (rz_w v a g) (fun q w' => (∃ u : Int32, (u = 0 ∨ u = 1) ∧ (u = 0 → v 0 < 24) ∧ q = .inl (some (.int u))) ∧ w' = rz_w v a g) := by
  refine ev_ps 3 rfl (ev_ic (cd := .lt) rfl (fun h1 => ?_) (fun h1 => ?_))
  · exact ev_ps 1 rfl (ev_ret rfl rfl ⟨⟨0, Or.inl rfl, fun _ => rc_lt_t h1, rfl⟩, rfl⟩)
  · exact ev_ps 2 rfl (ev_ret rfl rfl ⟨⟨1, Or.inr rfl, fun h => absurd h (by decide), rfl⟩, rfl⟩)
theorem c_codeAt {k : Nat} (hk : k < 24) : rz_C xs xl 13 [.ref 1, .int (Int32.ofNat k)] (rz_w v a g) (fun r w' => (∃ u, r = .inl (some (.int u))) ∧ w' = rz_w v a g) := by
  refine ev_ps 3 rfl (ev_ald rfl rfl (rz_in hk (by decide)) ?_)
  exact ev_ret rfl rfl ⟨⟨_, rfl⟩, rfl⟩
theorem c_append {n : Nat} (x : Int32) (hv : v 0 = Int32.ofNat n) (hn : n < 24) : rz_C xs xl 54 [.ref 1, .int x] (rz_w v a g) (fun r w' => (∃ u, r = .inl (some (.int u))) ∧ ∃ f, w' = rz_w (rz_up v 0 (v 0 + 1)) (rz_ua a 0 f) g) := by
  refine ev_ps 5 rfl (ev_ast rfl rfl (by rw [hv]; exact rz_in hn (by decide)) ?_)
  refine ev_w (w2 := rz_w v (rz_ua a 0 (upd (a 0) (v 0).toNatClampNeg x)) g) rfl ?_
  refine ev_ps 6 rfl ?_
  exact ev_ps 4 rfl (ev_ret rfl rfl ⟨⟨_, rfl⟩, _, rfl⟩)
theorem c_put {k : Nat} (x : Int32) (hk : k < 24) : rz_C xs xl 56 [.ref 1, .int (Int32.ofNat k), .int x] (rz_w v a g) (fun r w' => r = .inl none ∧ ∃ f, w' = rz_w v (rz_ua a 0 f) g) := by
  refine ev_ps 4 rfl (ev_ast rfl rfl (rz_in hk (by decide)) ?_)
  exact ev_ret rfl rfl ⟨rfl, _, rfl⟩
theorem c_allPlain {p n : Nat} (hpn : p + n ≤ 24) : rz_C xs xl 25 [.ref 1, .int (Int32.ofNat p), .int (Int32.ofNat n)] (rz_w v a g) (rz_bo (rz_w v a g) True) := by
  refine ev_ps 2 rfl ?_
  refine ev_loop (α := Nat) (fun k => n - k) (fun k => k ≤ n) (fun k => [some (.ref 1), some (.int (Int32.ofNat p)), some (.int (Int32.ofNat n)), some (.int (Int32.ofNat k))]) (fun _ => []) (fun _ => rz_w v a g) ?_ 0 (Nat.zero_le _)
  intro k hk ih
  refine ev_ps 2 rfl (ev_ic (cd := .ge) rfl (fun h => ?_) (fun h => ?_))
  · exact ev_ps 1 rfl (ev_ret rfl rfl (rz_bo1 trivial))
  · have hk' : k < n := rn_ge_f (by omega) (by omega) h
    refine ev_ps 5 rfl (ev_ald rfl rfl (by rw [rz_add]; exact rz_in (by omega) (by decide)) ?_)
    refine ev_call (av := [_]) rfl rfl rfl rfl ⟨Nat.le_of_ble_eq_true rfl, rfl⟩ ⟨Nat.le_of_ble_eq_true rfl, Nat.le_of_ble_eq_true rfl⟩ (c_isPlain _) ?_
    rintro _ _ ⟨⟨u, hu, rfl⟩, rfl⟩
    refine ev_if (cd := .ne) rfl (fun h2 => ?_) (fun h2 => ?_)
    · have h9 := ih (k + 1) (by omega) (by omega)
      rw [← rz_succ k] at h9
      exact ev_ps 2 rfl h9
    · exact ev_ps 1 rfl (ev_ret rfl rfl rz_bo0)
/-- a row of none, wherever -/
theorem c_allPlain0 (x : Int32) : rz_C xs xl 25 [.ref 1, .int x, .int 0] (rz_w v a g) (rz_bo (rz_w v a g) True) := by
  refine ev_ps 4 rfl (ev_ic (cd := .ge) rfl (fun h => ?_) (fun h => ?_))
  · exact ev_ps 1 rfl (ev_ret rfl rfl (rz_bo1 trivial))
  · exact absurd (by decide : (0 : Int32) ≤ 0) (rc_ge_f h)
theorem c_beginsBlock {p n : Nat} (hv : v 0 = Int32.ofNat n) (hn : n ≤ 24) (hp : p ≤ 24) : rz_C xs xl 27 [.ref 1, .int (Int32.ofNat p)] (rz_w v a g) (rz_bo (rz_w v a g) True) := by
  have loop : rz_E xs xl 27 22 [some (.ref 1), some (.int (Int32.ofNat p)), some (.int (Int32.ofNat 0))] [] (rz_w v a g) 0 0 (rz_bo (rz_w v a g) True) := by
    refine ev_loop (α := Nat) (fun k => n - k) (fun k => k ≤ n) (fun k => [some (.ref 1), some (.int (Int32.ofNat p)), some (.int (Int32.ofNat k))]) (fun _ => []) (fun _ => rz_w v a g) ?_ 0 (Nat.zero_le _)
    intro k hk ih
    have next : rz_E xs xl 27 57 [some (.ref 1), some (.int (Int32.ofNat p)), some (.int (Int32.ofNat k))] [] (rz_w v a g) 0 0 (rz_bo (rz_w v a g) True) ∨ n ≤ k := by
      by_cases hkn : k < n
      · have h9 := ih (k + 1) (by omega) (by omega)
        rw [← rz_succ k] at h9
        exact Or.inl (ev_ps 2 rfl h9)
      · exact Or.inr (by omega)
    refine ev_ps 3 rfl (ev_ic (cd := .ge) rfl (fun h => ?_) (fun h => ?_))
    · exact ev_ps 1 rfl (ev_ret rfl rfl rz_bo0)
    · rw [hv] at h
      have hk' : k < n := rn_ge_f (by omega) (by omega) h
      have next := next.resolve_right (by omega)
      refine ev_ps 3 rfl (ev_ald rfl rfl (rz_in (by omega) (by decide)) ?_)
      refine ev_call (av := [_]) rfl rfl rfl rfl ⟨Nat.le_of_ble_eq_true rfl, rfl⟩ ⟨Nat.le_of_ble_eq_true rfl, Nat.le_of_ble_eq_true rfl⟩ (c_hasTarget _) ?_
      rintro _ _ ⟨⟨u, hu, rfl⟩, rfl⟩
      refine ev_if (cd := .eq) rfl (fun h2 => next) (fun h2 => ?_)
      refine ev_ps 3 rfl (ev_ald rfl rfl (rz_in (by omega) (by decide)) ?_)
      refine ev_call (av := [_]) rfl rfl rfl rfl ⟨Nat.le_of_ble_eq_true rfl, rfl⟩ ⟨Nat.le_of_ble_eq_true rfl, Nat.le_of_ble_eq_true rfl⟩ (c_t _) ?_
      rintro _ _ ⟨rfl, rfl⟩
      refine ev_ps 1 rfl (ev_ic (cd := .ne) rfl (fun h2 => next) (fun h2 => ?_))
      exact ev_ps 1 rfl (ev_ret rfl rfl (rz_bo1 trivial))
  refine ev_ps 1 rfl (ev_if (cd := .eq) rfl (fun h1 => ?_) (fun h1 => ?_))
  · exact ev_ps 1 rfl (ev_ret rfl rfl (rz_bo1 trivial))
  · have hp0 : 0 < p := by
      rcases Nat.eq_zero_or_pos p with rfl | h
      · exact absurd rfl (rc_eq_f h1)
      · exact h
    have e : Int32.ofNat p - 1 = Int32.ofNat (p - 1) := rz_sub (n := 1) hp0
    refine ev_ps 5 rfl (ev_ald rfl rfl (by rw [show Int32.ofNat p - Int32.ofInt 1 = Int32.ofNat (p - 1) from e]; exact rz_in (by omega) (by decide)) ?_)
    refine ev_call (av := [_]) rfl rfl rfl rfl ⟨Nat.le_of_ble_eq_true rfl, rfl⟩ ⟨Nat.le_of_ble_eq_true rfl, Nat.le_of_ble_eq_true rfl⟩ (c_endsBlock _) ?_
    rintro _ _ ⟨⟨u, hu, rfl⟩, rfl⟩
    refine ev_if (cd := .eq) rfl (fun h2 => ?_) (fun h2 => ?_)
    · exact ev_ps 2 rfl loop
    · exact ev_ps 1 rfl (ev_ret rfl rfl (rz_bo1 trivial))
end RZP1
/-! Program's writers, and rows, liveness, provers at each of their places -/
section RZP2
variable {xs : Nat → Int32} {xl : Nat} {v : Nat → Int32} {a : Nat → Nat → Int32} {g : Nat → Int64}
theorem c_hasRow {p n m : Nat} (hv : v 0 = Int32.ofNat m) (hm : m ≤ 24) (hp : p ≤ 24) (hn : n ≤ 3) (hn1 : 1 ≤ n) : rz_C xs xl 23 [.ref 1, .int (Int32.ofNat p), .int (Int32.ofNat n)] (rz_w v a g) (rz_bo (rz_w v a g) (p + n ≤ m)) := by
  refine ev_ps 3 rfl (ev_call (av := [_, _, _]) rfl rfl rfl rfl ⟨Nat.le_of_ble_eq_true rfl, rfl⟩ ⟨Nat.le_of_ble_eq_true rfl, Nat.le_of_ble_eq_true rfl⟩ (c_hasAll _ _) ?_)
  rintro _ _ ⟨⟨u, hu, hP, rfl⟩, rfl⟩
  refine ev_if (cd := .eq) rfl (fun h1 => ?_) (fun h1 => ?_)
  · exact ev_ps 1 rfl (ev_ret rfl rfl rz_bo0)
  · have hle : p + n ≤ m := by
      rcases hP (hu.resolve_left (rc_eq_f h1)) with h | ⟨-, h⟩
      · have : n = 0 := (rz_eq_iff (k := 0) (by omega) (by omega)).mp h
        omega
      · rw [hv] at h
        by_cases hmn : n ≤ m
        · rw [rz_sub hmn, rz_lt_iff (by omega) (by omega)] at h
          omega
        · exfalso
          apply h
          have e : Int32.ofNat m - Int32.ofNat n < 0 := by
            have : ∀ m' < 25, ∀ n' < 4, m' < n' → Int32.ofNat m' - Int32.ofNat n' < 0 := by decide +kernel
            exact this m (by omega) n (by omega) (by omega)
          have e2 : ¬ Int32.ofNat p < Int32.ofNat 0 := by rw [rz_lt_iff (by omega) (by omega)]; omega
          exact Int32.lt_of_lt_of_le e (Int32.not_lt.mp e2)
    refine ev_ps 3 rfl (ev_call (av := [_, _, _]) rfl rfl rfl rfl ⟨Nat.le_of_ble_eq_true rfl, rfl⟩ ⟨Nat.le_of_ble_eq_true rfl, Nat.le_of_ble_eq_true rfl⟩ (c_allPlain (by omega)) ?_)
    rintro _ _ ⟨⟨u, hu, hP, rfl⟩, rfl⟩
    refine ev_if (cd := .ne) rfl (fun h2 => ?_) (fun h2 => ?_)
    · refine ev_ps 2 rfl ?_
      refine ev_loop (α := Nat) (fun k => n - k) (fun k => 1 ≤ k ∧ k ≤ n) (fun k => [some (.ref 1), some (.int (Int32.ofNat p)), some (.int (Int32.ofNat n)), some (.int (Int32.ofNat k))]) (fun _ => []) (fun _ => rz_w v a g) ?_ 1 ⟨Nat.le_refl _, hn1⟩
      intro k hk ih
      refine ev_ps 2 rfl (ev_ic (cd := .ge) rfl (fun h => ?_) (fun h => ?_))
      · exact ev_ps 1 rfl (ev_ret rfl rfl (rz_bo1 hle))
      · have hk' : k < n := rn_ge_f (by omega) (by omega) h
        refine ev_ps 4 rfl ?_
        refine ev_call (av := [.ref 1, .int (Int32.ofNat (p + k))]) rfl (by rw [← rz_add]; rfl) rfl rfl ⟨Nat.le_of_ble_eq_true rfl, rfl⟩ ⟨Nat.le_of_ble_eq_true rfl, Nat.le_of_ble_eq_true rfl⟩ (c_beginsBlock hv hm (by omega)) ?_
        rintro _ _ ⟨⟨u, hu, -, rfl⟩, rfl⟩
        refine ev_if (cd := .eq) rfl (fun h2 => ?_) (fun h2 => ?_)
        · have h9 := ih (k + 1) ⟨by omega, by omega⟩ (by omega)
          rw [← rz_succ k] at h9
          exact ev_ps 2 rfl h9
        · exact ev_ps 1 rfl (ev_ret rfl rfl rz_bo0)
    · exact ev_ps 1 rfl (ev_ret rfl rfl rz_bo0)
theorem c_beginOfBlock {p n : Nat} (hv : v 0 = Int32.ofNat n) (hn : n ≤ 24) (hp : p ≤ 24) : rz_C xs xl 67 [.ref 1, .int (Int32.ofNat p)] (rz_w v a g) (fun q w' => (∃ u, q = .inl (some (.int u))) ∧ w' = rz_w v a g) := by
  refine ev_ps 2 rfl ?_
  refine ev_loop (α := Nat) (fun k => k) (fun k => k ≤ 24) (fun k => [some (.ref 1), some (.int (Int32.ofNat p)), some (.int (Int32.ofNat k))]) (fun _ => []) (fun _ => rz_w v a g) ?_ p hp
  intro k hk ih
  refine ev_ps 1 rfl (ev_if (cd := .le) rfl (fun h => ?_) (fun h => ?_))
  · exact ev_ps 1 rfl (ev_ret rfl rfl ⟨⟨_, rfl⟩, rfl⟩)
  · have hk0 : 0 < k := rn_le_f (k := 0) (by omega) (by omega) h
    refine ev_ps 2 rfl (ev_call (av := [_, _]) rfl rfl rfl rfl ⟨Nat.le_of_ble_eq_true rfl, rfl⟩ ⟨Nat.le_of_ble_eq_true rfl, Nat.le_of_ble_eq_true rfl⟩ (c_beginsBlock hv hn hk) ?_)
    rintro _ _ ⟨⟨u, hu, -, rfl⟩, rfl⟩
    refine ev_if (cd := .ne) rfl (fun h2 => ?_) (fun h2 => ?_)
    · exact ev_ps 1 rfl (ev_ret rfl rfl ⟨⟨_, rfl⟩, rfl⟩)
    · have h9 := ih (k - 1) (by omega) (by omega)
      rw [← rz_sub (k := k) (n := 1) hk0, show Int32.ofNat k - Int32.ofNat 1 = Int32.ofNat k + Int32.ofInt (-1) from Int32.sub_eq_add_neg _ _] at h9
      exact ev_ps 2 rfl h9
theorem c_moveTargets {n : Nat} (x y : Int32) (hv : v 0 = Int32.ofNat n) (hn : n ≤ 24) : rz_C xs xl 46 [.ref 1, .int x, .int y] (rz_w v a g) (fun q w' => q = .inl none ∧ ∃ f, w' = rz_w v (rz_ua a 0 f) g) := by
  refine ev_ps 2 rfl ?_
  suffices H : ∀ (t : Option Value), rz_E xs xl 46 2 [some (.ref 1), some (.int x), some (.int y), some (.int (Int32.ofNat 0)), t] [] (rz_w v (rz_ua a 0 (a 0)) g) 0 0 (fun q w' => q = .inl none ∧ ∃ f, w' = rz_w v (rz_ua a 0 f) g) from H none
  intro t
  refine ev_loop (α := Nat × Option Value × (Nat → Int32)) (fun q => n - q.1) (fun q => q.1 ≤ n) (fun q => [some (.ref 1), some (.int x), some (.int y), some (.int (Int32.ofNat q.1)), q.2.1]) (fun _ => []) (fun q => rz_w v (rz_ua a 0 q.2.2) g) ?_ (0, t, a 0) (Nat.zero_le _)
  rintro ⟨k, t, f⟩ hk ih
  dsimp only at hk ih ⊢
  have next : k < n → ∀ (t : Int32) (f : Nat → Int32), rz_E xs xl 46 58 [some (.ref 1), some (.int x), some (.int y), some (.int (Int32.ofNat k)), some (.int t)] [] (rz_w v (rz_ua a 0 f) g) 0 0 (fun q w' => q = .inl none ∧ ∃ f, w' = rz_w v (rz_ua a 0 f) g) := by
    intro hkn t f
    have h9 := ih (k + 1, some (.int t), f) (by show k + 1 ≤ n; omega) (by show n - (k + 1) < n - k; omega)
    dsimp only at h9
    rw [← rz_succ k] at h9
    exact ev_ps 2 rfl h9
  refine ev_ps 3 rfl (ev_ic (cd := .ge) rfl (fun h => ?_) (fun h => ?_))
  · exact ev_ret rfl rfl ⟨rfl, _, rfl⟩
  · rw [show (rz_w v (rz_ua a 0 f) g) = (rz_w v (rz_ua a 0 f) g) from rfl] at *
    have h' : rz_cmp .ge (Int32.ofNat k) (v 0) = false := h
    rw [hv] at h'
    have hk' : k < n := rn_ge_f (by omega) (by omega) h'
    refine ev_ps 3 rfl (ev_ald rfl rfl (rz_in (by omega) (by decide)) ?_)
    refine ev_call (av := [_]) rfl rfl rfl rfl ⟨Nat.le_of_ble_eq_true rfl, rfl⟩ ⟨Nat.le_of_ble_eq_true rfl, Nat.le_of_ble_eq_true rfl⟩ (c_t _) ?_
    rintro _ _ ⟨rfl, rfl⟩
    refine ev_ps 4 rfl (ev_ald rfl rfl (rz_in (by omega) (by decide)) ?_)
    refine ev_call (av := [_]) rfl rfl rfl rfl ⟨Nat.le_of_ble_eq_true rfl, rfl⟩ ⟨Nat.le_of_ble_eq_true rfl, Nat.le_of_ble_eq_true rfl⟩ (c_hasTarget _) ?_
    rintro _ _ ⟨⟨u, hu, rfl⟩, rfl⟩
    refine ev_if (cd := .eq) rfl (fun h2 => next hk' _ _) (fun h2 => ?_)
    refine ev_ps 2 rfl (ev_ic (cd := .le) rfl (fun h2 => next hk' _ _) (fun h2 => ?_))
    refine ev_ps 6 rfl (ev_ald rfl rfl (rz_in (by omega) (by decide)) ?_)
    refine ev_ps 3 rfl (ev_call (av := [_, _]) rfl rfl rfl rfl ⟨Nat.le_of_ble_eq_true rfl, rfl⟩ ⟨Nat.le_of_ble_eq_true rfl, Nat.le_of_ble_eq_true rfl⟩ (c_withTarget _ _) ?_)
    rintro _ _ ⟨rfl, rfl⟩
    refine ev_ast rfl rfl (rz_in (by omega) (by decide)) ?_
    exact ev_w (w2 := rz_w v (rz_ua a 0 (upd f (Int32.ofNat k).toNatClampNeg _)) g) rfl (next hk' _ _)
theorem c_progPutForRow {p n m : Nat} (x : Int32) (hv : v 0 = Int32.ofNat m) (hm : m ≤ 24) (hn1 : 1 ≤ n) (hpn : p + n ≤ m) : rz_C xs xl 45 [.ref 1, .int (Int32.ofNat p), .int (Int32.ofNat n), .int x] (rz_w v a g)
    (fun q w' => ∃ (c : Nat) (f : Nat → Int32), c ≤ 1 ∧ q = .inl (some (.int (Int32.ofNat c))) ∧ w' = rz_w (rz_up v 0 (Int32.ofNat (m - (n - c)))) (rz_ua a 0 f) g) := by
  have main : ∀ (c : Nat) (f : Nat → Int32), c ≤ 1 → rz_E xs xl 45 18 [some (.ref 1), some (.int (Int32.ofNat p)), some (.int (Int32.ofNat n)), some (.int x), some (.int (Int32.ofNat c)), none, none] [] (rz_w v (rz_ua a 0 f) g) 0 0 (fun q w' => ∃ (c : Nat) (f : Nat → Int32), c ≤ 1 ∧ q = .inl (some (.int (Int32.ofNat c))) ∧ w' = rz_w (rz_up v 0 (Int32.ofNat (m - (n - c)))) (rz_ua a 0 f) g) := by
    intro c f hc
    refine ev_ps 8 rfl ?_
    refine ev_l (L2 := [some (.ref 1), some (.int (Int32.ofNat p)), some (.int (Int32.ofNat n)), some (.int x), some (.int (Int32.ofNat c)), some (.int (Int32.ofNat (n - c))), some (.int (Int32.ofNat (p + c)))]) (by rw [← rz_sub (show c ≤ n by omega), ← rz_add]; rfl) ?_
    refine ev_loop (α := Nat × (Nat → Int32)) (fun q => m - q.1) (fun q => q.1 + (n - c) ≤ m) (fun q => [some (.ref 1), some (.int (Int32.ofNat p)), some (.int (Int32.ofNat n)), some (.int x), some (.int (Int32.ofNat c)), some (.int (Int32.ofNat (n - c))), some (.int (Int32.ofNat q.1))]) (fun _ => []) (fun q => rz_w v (rz_ua a 0 q.2) g) ?_ (p + c, f) (by show p + c + (n - c) ≤ m; omega)
    rintro ⟨k, f⟩ hk ih
    dsimp only at hk ih ⊢
    refine ev_ps 5 rfl (ev_ic (cd := .ge) rfl (fun h => ?_) (fun h => ?_))
    · refine ev_ps 6 rfl ?_
      refine ev_w (w2 := rz_w (rz_up v 0 (Int32.ofNat (m - (n - c)))) (rz_ua a 0 f) g) ?_ ?_
      · rw [← rz_sub (show n - c ≤ m by omega), ← hv]; rfl
      · refine ev_ps 3 rfl (ev_call (av := [_, _, _]) rfl rfl rfl rfl ⟨Nat.le_of_ble_eq_true rfl, rfl⟩ ⟨Nat.le_of_ble_eq_true rfl, Nat.le_of_ble_eq_true rfl⟩ (c_moveTargets (n := m - (n - c)) _ _ rfl (by omega)) ?_)
        rintro _ _ ⟨rfl, f2, rfl⟩
        exact ev_ps 1 rfl (ev_ret rfl rfl ⟨c, f2, hc, rfl, rfl⟩)
    · have h' : rz_cmp .ge (Int32.ofNat k) (v 0 - Int32.ofNat (n - c)) = false := h
      rw [hv, rz_sub (by omega)] at h'
      have hk' : k < m - (n - c) := rn_ge_f (by omega) (by omega) h'
      refine ev_ps 8 rfl (ev_ald rfl rfl (by rw [rz_add]; exact rz_in (by omega) (by decide)) ?_)
      refine ev_ast rfl rfl (rz_in (by omega) (by decide)) ?_
      have h9 := fun f2 => ih (k + 1, f2) (by show k + 1 + (n - c) ≤ m; omega) (by show m - (k + 1) < m - k; omega)
      dsimp only at h9
      rw [← rz_succ k] at h9
      exact ev_w (w2 := rz_w v (rz_ua a 0 (upd f (Int32.ofNat k).toNatClampNeg _)) g) rfl (ev_ps 2 rfl (h9 _))
  refine ev_ps 4 rfl (ev_ic (cd := .eq) rfl (fun h => ?_) (fun h => ?_))
  · exact ev_w (w2 := rz_w v (rz_ua a 0 (a 0)) g) rfl (main 0 (a 0) (by omega))
  · refine ev_ps 4 rfl (ev_ast rfl rfl (rz_in (by omega) (by decide)) ?_)
    refine ev_w (w2 := rz_w v (rz_ua a 0 (upd (a 0) (Int32.ofNat p).toNatClampNeg x)) g) rfl ?_
    exact ev_ps 2 rfl (main 1 _ (by omega))
theorem c_takeNothing_9 : rz_C xs xl 34 [.ref 9] (rz_w v a g) (fun q w' => q = .inl none ∧ w' = rz_w (rz_up v 6 0) a g) :=
  ev_ps 3 rfl (ev_ret rfl rfl ⟨rfl, rfl⟩)
theorem c_takeOne_9 (x : Int32) : rz_C xs xl 43 [.ref 9, .int x] (rz_w v a g) (fun q w' => q = .inl none ∧ ∃ f, w' = rz_w (rz_up v 6 1) (rz_ua a 4 f) g) := by
  refine ev_ps 4 rfl (ev_ast rfl rfl (by decide) ?_)
  refine ev_w (w2 := rz_w v (rz_ua a 4 (upd (a 4) (0 : Int32).toNatClampNeg x)) g) rfl ?_
  exact ev_ps 3 rfl (ev_ret rfl rfl ⟨rfl, _, rfl⟩)
theorem c_takeFrom_9 {p n : Nat} (hn : n ≤ 3) (hpn : p + n ≤ 24) : rz_C xs xl 30 [.ref 9, .ref 1, .int (Int32.ofNat p), .int (Int32.ofNat n)] (rz_w v a g) (fun q w' => q = .inl none ∧ ∃ f, w' = rz_w (rz_up v 6 (Int32.ofNat n)) (rz_ua a 4 f) g) := by
  refine ev_ps 2 rfl (ev_w (w2 := rz_w v (rz_ua a 4 (a 4)) g) rfl ?_)
  refine ev_loop (α := Nat × (Nat → Int32)) (fun q => n - q.1) (fun q => q.1 ≤ n) (fun q => [some (.ref 9), some (.ref 1), some (.int (Int32.ofNat p)), some (.int (Int32.ofNat n)), some (.int (Int32.ofNat q.1))]) (fun _ => []) (fun q => rz_w v (rz_ua a 4 q.2) g) ?_ (0, a 4) (Nat.zero_le _)
  rintro ⟨k, f⟩ hk ih
  dsimp only at hk ih ⊢
  refine ev_ps 2 rfl (ev_ic (cd := .ge) rfl (fun h => ?_) (fun h => ?_))
  · exact ev_ps 3 rfl (ev_ret rfl rfl ⟨rfl, f, rfl⟩)
  · have hk' : k < n := rn_ge_f (by omega) (by omega) h
    refine ev_ps 7 rfl ?_
    refine ev_call (av := [.ref 1, .int (Int32.ofNat (p + k))]) rfl (by rw [← rz_add]; rfl) rfl rfl ⟨Nat.le_of_ble_eq_true rfl, rfl⟩ ⟨Nat.le_of_ble_eq_true rfl, Nat.le_of_ble_eq_true rfl⟩ (c_codeAt (by omega)) ?_
    rintro _ _ ⟨⟨u, rfl⟩, rfl⟩
    refine ev_ast rfl rfl (rz_in (by omega) (by decide)) ?_
    have h9 := fun f2 => ih (k + 1, f2) (by show k + 1 ≤ n; omega) (by show n - (k + 1) < n - k; omega)
    dsimp only at h9
    rw [← rz_succ k] at h9
    exact ev_w (w2 := rz_w v (rz_ua a 4 (upd f (Int32.ofNat k).toNatClampNeg _)) g) rfl (ev_ps 2 rfl (h9 _))
theorem c_takeFrom0_9 (x : Int32) : rz_C xs xl 30 [.ref 9, .ref 1, .int x, .int 0] (rz_w v a g) (fun q w' => q = .inl none ∧ ∃ f, w' = rz_w (rz_up v 6 (Int32.ofNat 0)) (rz_ua a 4 f) g) := by
  refine ev_ps 4 rfl (ev_ic (cd := .ge) rfl (fun h => ?_) (fun h => ?_))
  · exact ev_ps 3 rfl (ev_ret rfl rfl ⟨rfl, a 4, rfl⟩)
  · exact absurd (by decide : (0 : Int32) ≤ 0) (rc_ge_f h)
theorem c_rowRegs_9 {n : Nat} (x : Int32) (hv : v 6 = Int32.ofNat n) (hn : n ≤ 3) : rz_C xs xl 36 [.ref 9, .int x] (rz_w v a g) (fun q w' => (∃ u, q = .inl (some (.int u))) ∧ w' = rz_w v a g) := by
  refine ev_ps 4 rfl ?_
  refine ev_loop (α := Nat × Int32) (fun q => n - q.1) (fun q => q.1 ≤ n) (fun q => [some (.ref 9), some (.int x), some (.int q.2), some (.int (Int32.ofNat q.1))]) (fun _ => []) (fun _ => rz_w v a g) ?_ (0, x) (Nat.zero_le _)
  rintro ⟨k, y⟩ hk ih
  dsimp only at hk ih ⊢
  refine ev_ps 3 rfl (ev_ic (cd := .ge) rfl (fun h => ?_) (fun h => ?_))
  · exact ev_ps 1 rfl (ev_ret rfl rfl ⟨⟨_, rfl⟩, rfl⟩)
  · rw [hv] at h
    have hk' : k < n := rn_ge_f (by omega) (by omega) h
    refine ev_ps 3 rfl (ev_ald rfl rfl (rz_in (by omega) (by decide)) ?_)
    refine ev_ps 1 rfl (ev_call (av := [_, _]) rfl rfl rfl rfl ⟨Nat.le_of_ble_eq_true rfl, rfl⟩ ⟨Nat.le_of_ble_eq_true rfl, Nat.le_of_ble_eq_true rfl⟩ (c_regsAfter _ _) ?_)
    rintro _ _ ⟨⟨u, rfl⟩, rfl⟩
    have h9 := ih (k + 1, u) (by show k + 1 ≤ n; omega) (by show n - (k + 1) < n - k; omega)
    dsimp only at h9
    rw [← rz_succ k] at h9
    exact ev_ps 3 rfl h9
theorem c_takeNothing_11 : rz_C xs xl 34 [.ref 11] (rz_w v a g) (fun q w' => q = .inl none ∧ w' = rz_w (rz_up v 7 0) a g) :=
  ev_ps 3 rfl (ev_ret rfl rfl ⟨rfl, rfl⟩)
theorem c_takeOne_11 (x : Int32) : rz_C xs xl 43 [.ref 11, .int x] (rz_w v a g) (fun q w' => q = .inl none ∧ ∃ f, w' = rz_w (rz_up v 7 1) (rz_ua a 5 f) g) := by
  refine ev_ps 4 rfl (ev_ast rfl rfl (by decide) ?_)
  refine ev_w (w2 := rz_w v (rz_ua a 5 (upd (a 5) (0 : Int32).toNatClampNeg x)) g) rfl ?_
  exact ev_ps 3 rfl (ev_ret rfl rfl ⟨rfl, _, rfl⟩)
theorem c_takeFrom_11 {p n : Nat} (hn : n ≤ 3) (hpn : p + n ≤ 24) : rz_C xs xl 30 [.ref 11, .ref 1, .int (Int32.ofNat p), .int (Int32.ofNat n)] (rz_w v a g) (fun q w' => q = .inl none ∧ ∃ f, w' = rz_w (rz_up v 7 (Int32.ofNat n)) (rz_ua a 5 f) g) := by
  refine ev_ps 2 rfl (ev_w (w2 := rz_w v (rz_ua a 5 (a 5)) g) rfl ?_)
  refine ev_loop (α := Nat × (Nat → Int32)) (fun q => n - q.1) (fun q => q.1 ≤ n) (fun q => [some (.ref 11), some (.ref 1), some (.int (Int32.ofNat p)), some (.int (Int32.ofNat n)), some (.int (Int32.ofNat q.1))]) (fun _ => []) (fun q => rz_w v (rz_ua a 5 q.2) g) ?_ (0, a 5) (Nat.zero_le _)
  rintro ⟨k, f⟩ hk ih
  dsimp only at hk ih ⊢
  refine ev_ps 2 rfl (ev_ic (cd := .ge) rfl (fun h => ?_) (fun h => ?_))
  · exact ev_ps 3 rfl (ev_ret rfl rfl ⟨rfl, f, rfl⟩)
  · have hk' : k < n := rn_ge_f (by omega) (by omega) h
    refine ev_ps 7 rfl ?_
    refine ev_call (av := [.ref 1, .int (Int32.ofNat (p + k))]) rfl (by rw [← rz_add]; rfl) rfl rfl ⟨Nat.le_of_ble_eq_true rfl, rfl⟩ ⟨Nat.le_of_ble_eq_true rfl, Nat.le_of_ble_eq_true rfl⟩ (c_codeAt (by omega)) ?_
    rintro _ _ ⟨⟨u, rfl⟩, rfl⟩
    refine ev_ast rfl rfl (rz_in (by omega) (by decide)) ?_
    have h9 := fun f2 => ih (k + 1, f2) (by show k + 1 ≤ n; omega) (by show n - (k + 1) < n - k; omega)
    dsimp only at h9
    rw [← rz_succ k] at h9
    exact ev_w (w2 := rz_w v (rz_ua a 5 (upd f (Int32.ofNat k).toNatClampNeg _)) g) rfl (ev_ps 2 rfl (h9 _))
theorem c_takeFrom0_11 (x : Int32) : rz_C xs xl 30 [.ref 11, .ref 1, .int x, .int 0] (rz_w v a g) (fun q w' => q = .inl none ∧ ∃ f, w' = rz_w (rz_up v 7 (Int32.ofNat 0)) (rz_ua a 5 f) g) := by
  refine ev_ps 4 rfl (ev_ic (cd := .ge) rfl (fun h => ?_) (fun h => ?_))
  · exact ev_ps 3 rfl (ev_ret rfl rfl ⟨rfl, a 5, rfl⟩)
  · exact absurd (by decide : (0 : Int32) ≤ 0) (rc_ge_f h)
theorem c_rowRegs_11 {n : Nat} (x : Int32) (hv : v 7 = Int32.ofNat n) (hn : n ≤ 3) : rz_C xs xl 36 [.ref 11, .int x] (rz_w v a g) (fun q w' => (∃ u, q = .inl (some (.int u))) ∧ w' = rz_w v a g) := by
  refine ev_ps 4 rfl ?_
  refine ev_loop (α := Nat × Int32) (fun q => n - q.1) (fun q => q.1 ≤ n) (fun q => [some (.ref 11), some (.int x), some (.int q.2), some (.int (Int32.ofNat q.1))]) (fun _ => []) (fun _ => rz_w v a g) ?_ (0, x) (Nat.zero_le _)
  rintro ⟨k, y⟩ hk ih
  dsimp only at hk ih ⊢
  refine ev_ps 3 rfl (ev_ic (cd := .ge) rfl (fun h => ?_) (fun h => ?_))
  · exact ev_ps 1 rfl (ev_ret rfl rfl ⟨⟨_, rfl⟩, rfl⟩)
  · rw [hv] at h
    have hk' : k < n := rn_ge_f (by omega) (by omega) h
    refine ev_ps 3 rfl (ev_ald rfl rfl (rz_in (by omega) (by decide)) ?_)
    refine ev_ps 1 rfl (ev_call (av := [_, _]) rfl rfl rfl rfl ⟨Nat.le_of_ble_eq_true rfl, rfl⟩ ⟨Nat.le_of_ble_eq_true rfl, Nat.le_of_ble_eq_true rfl⟩ (c_regsAfter _ _) ?_)
    rintro _ _ ⟨⟨u, rfl⟩, rfl⟩
    have h9 := ih (k + 1, u) (by show k + 1 ≤ n; omega) (by show n - (k + 1) < n - k; omega)
    dsimp only at h9
    rw [← rz_succ k] at h9
    exact ev_ps 3 rfl h9
theorem c_takeNothing_21 : rz_C xs xl 34 [.ref 21] (rz_w v a g) (fun q w' => q = .inl none ∧ w' = rz_w (rz_up v 11 0) a g) :=
  ev_ps 3 rfl (ev_ret rfl rfl ⟨rfl, rfl⟩)
theorem c_takeOne_21 (x : Int32) : rz_C xs xl 43 [.ref 21, .int x] (rz_w v a g) (fun q w' => q = .inl none ∧ ∃ f, w' = rz_w (rz_up v 11 1) (rz_ua a 9 f) g) := by
  refine ev_ps 4 rfl (ev_ast rfl rfl (by decide) ?_)
  refine ev_w (w2 := rz_w v (rz_ua a 9 (upd (a 9) (0 : Int32).toNatClampNeg x)) g) rfl ?_
  exact ev_ps 3 rfl (ev_ret rfl rfl ⟨rfl, _, rfl⟩)
theorem c_takeFrom_21 {p n : Nat} (hn : n ≤ 3) (hpn : p + n ≤ 24) : rz_C xs xl 30 [.ref 21, .ref 1, .int (Int32.ofNat p), .int (Int32.ofNat n)] (rz_w v a g) (fun q w' => q = .inl none ∧ ∃ f, w' = rz_w (rz_up v 11 (Int32.ofNat n)) (rz_ua a 9 f) g) := by
  refine ev_ps 2 rfl (ev_w (w2 := rz_w v (rz_ua a 9 (a 9)) g) rfl ?_)
  refine ev_loop (α := Nat × (Nat → Int32)) (fun q => n - q.1) (fun q => q.1 ≤ n) (fun q => [some (.ref 21), some (.ref 1), some (.int (Int32.ofNat p)), some (.int (Int32.ofNat n)), some (.int (Int32.ofNat q.1))]) (fun _ => []) (fun q => rz_w v (rz_ua a 9 q.2) g) ?_ (0, a 9) (Nat.zero_le _)
  rintro ⟨k, f⟩ hk ih
  dsimp only at hk ih ⊢
  refine ev_ps 2 rfl (ev_ic (cd := .ge) rfl (fun h => ?_) (fun h => ?_))
  · exact ev_ps 3 rfl (ev_ret rfl rfl ⟨rfl, f, rfl⟩)
  · have hk' : k < n := rn_ge_f (by omega) (by omega) h
    refine ev_ps 7 rfl ?_
    refine ev_call (av := [.ref 1, .int (Int32.ofNat (p + k))]) rfl (by rw [← rz_add]; rfl) rfl rfl ⟨Nat.le_of_ble_eq_true rfl, rfl⟩ ⟨Nat.le_of_ble_eq_true rfl, Nat.le_of_ble_eq_true rfl⟩ (c_codeAt (by omega)) ?_
    rintro _ _ ⟨⟨u, rfl⟩, rfl⟩
    refine ev_ast rfl rfl (rz_in (by omega) (by decide)) ?_
    have h9 := fun f2 => ih (k + 1, f2) (by show k + 1 ≤ n; omega) (by show n - (k + 1) < n - k; omega)
    dsimp only at h9
    rw [← rz_succ k] at h9
    exact ev_w (w2 := rz_w v (rz_ua a 9 (upd f (Int32.ofNat k).toNatClampNeg _)) g) rfl (ev_ps 2 rfl (h9 _))
theorem c_takeFrom0_21 (x : Int32) : rz_C xs xl 30 [.ref 21, .ref 1, .int x, .int 0] (rz_w v a g) (fun q w' => q = .inl none ∧ ∃ f, w' = rz_w (rz_up v 11 (Int32.ofNat 0)) (rz_ua a 9 f) g) := by
  refine ev_ps 4 rfl (ev_ic (cd := .ge) rfl (fun h => ?_) (fun h => ?_))
  · exact ev_ps 3 rfl (ev_ret rfl rfl ⟨rfl, a 9, rfl⟩)
  · exact absurd (by decide : (0 : Int32) ≤ 0) (rc_ge_f h)
theorem c_rowRegs_21 {n : Nat} (x : Int32) (hv : v 11 = Int32.ofNat n) (hn : n ≤ 3) : rz_C xs xl 36 [.ref 21, .int x] (rz_w v a g) (fun q w' => (∃ u, q = .inl (some (.int u))) ∧ w' = rz_w v a g) := by
  refine ev_ps 4 rfl ?_
  refine ev_loop (α := Nat × Int32) (fun q => n - q.1) (fun q => q.1 ≤ n) (fun q => [some (.ref 21), some (.int x), some (.int q.2), some (.int (Int32.ofNat q.1))]) (fun _ => []) (fun _ => rz_w v a g) ?_ (0, x) (Nat.zero_le _)
  rintro ⟨k, y⟩ hk ih
  dsimp only at hk ih ⊢
  refine ev_ps 3 rfl (ev_ic (cd := .ge) rfl (fun h => ?_) (fun h => ?_))
  · exact ev_ps 1 rfl (ev_ret rfl rfl ⟨⟨_, rfl⟩, rfl⟩)
  · rw [hv] at h
    have hk' : k < n := rn_ge_f (by omega) (by omega) h
    refine ev_ps 3 rfl (ev_ald rfl rfl (rz_in (by omega) (by decide)) ?_)
    refine ev_ps 1 rfl (ev_call (av := [_, _]) rfl rfl rfl rfl ⟨Nat.le_of_ble_eq_true rfl, rfl⟩ ⟨Nat.le_of_ble_eq_true rfl, Nat.le_of_ble_eq_true rfl⟩ (c_regsAfter _ _) ?_)
    rintro _ _ ⟨⟨u, rfl⟩, rfl⟩
    have h9 := ih (k + 1, u) (by show k + 1 ≤ n; omega) (by show n - (k + 1) < n - k; omega)
    dsimp only at h9
    rw [← rz_succ k] at h9
    exact ev_ps 3 rfl h9
theorem c_takeNothing_23 : rz_C xs xl 34 [.ref 23] (rz_w v a g) (fun q w' => q = .inl none ∧ w' = rz_w (rz_up v 12 0) a g) :=
  ev_ps 3 rfl (ev_ret rfl rfl ⟨rfl, rfl⟩)
theorem c_takeOne_23 (x : Int32) : rz_C xs xl 43 [.ref 23, .int x] (rz_w v a g) (fun q w' => q = .inl none ∧ ∃ f, w' = rz_w (rz_up v 12 1) (rz_ua a 10 f) g) := by
  refine ev_ps 4 rfl (ev_ast rfl rfl (by decide) ?_)
  refine ev_w (w2 := rz_w v (rz_ua a 10 (upd (a 10) (0 : Int32).toNatClampNeg x)) g) rfl ?_
  exact ev_ps 3 rfl (ev_ret rfl rfl ⟨rfl, _, rfl⟩)
theorem c_takeFrom_23 {p n : Nat} (hn : n ≤ 3) (hpn : p + n ≤ 24) : rz_C xs xl 30 [.ref 23, .ref 1, .int (Int32.ofNat p), .int (Int32.ofNat n)] (rz_w v a g) (fun q w' => q = .inl none ∧ ∃ f, w' = rz_w (rz_up v 12 (Int32.ofNat n)) (rz_ua a 10 f) g) := by
  refine ev_ps 2 rfl (ev_w (w2 := rz_w v (rz_ua a 10 (a 10)) g) rfl ?_)
  refine ev_loop (α := Nat × (Nat → Int32)) (fun q => n - q.1) (fun q => q.1 ≤ n) (fun q => [some (.ref 23), some (.ref 1), some (.int (Int32.ofNat p)), some (.int (Int32.ofNat n)), some (.int (Int32.ofNat q.1))]) (fun _ => []) (fun q => rz_w v (rz_ua a 10 q.2) g) ?_ (0, a 10) (Nat.zero_le _)
  rintro ⟨k, f⟩ hk ih
  dsimp only at hk ih ⊢
  refine ev_ps 2 rfl (ev_ic (cd := .ge) rfl (fun h => ?_) (fun h => ?_))
  · exact ev_ps 3 rfl (ev_ret rfl rfl ⟨rfl, f, rfl⟩)
  · have hk' : k < n := rn_ge_f (by omega) (by omega) h
    refine ev_ps 7 rfl ?_
    refine ev_call (av := [.ref 1, .int (Int32.ofNat (p + k))]) rfl (by rw [← rz_add]; rfl) rfl rfl ⟨Nat.le_of_ble_eq_true rfl, rfl⟩ ⟨Nat.le_of_ble_eq_true rfl, Nat.le_of_ble_eq_true rfl⟩ (c_codeAt (by omega)) ?_
    rintro _ _ ⟨⟨u, rfl⟩, rfl⟩
    refine ev_ast rfl rfl (rz_in (by omega) (by decide)) ?_
    have h9 := fun f2 => ih (k + 1, f2) (by show k + 1 ≤ n; omega) (by show n - (k + 1) < n - k; omega)
    dsimp only at h9
    rw [← rz_succ k] at h9
    exact ev_w (w2 := rz_w v (rz_ua a 10 (upd f (Int32.ofNat k).toNatClampNeg _)) g) rfl (ev_ps 2 rfl (h9 _))
theorem c_takeFrom0_23 (x : Int32) : rz_C xs xl 30 [.ref 23, .ref 1, .int x, .int 0] (rz_w v a g) (fun q w' => q = .inl none ∧ ∃ f, w' = rz_w (rz_up v 12 (Int32.ofNat 0)) (rz_ua a 10 f) g) := by
  refine ev_ps 4 rfl (ev_ic (cd := .ge) rfl (fun h => ?_) (fun h => ?_))
  · exact ev_ps 3 rfl (ev_ret rfl rfl ⟨rfl, a 10, rfl⟩)
  · exact absurd (by decide : (0 : Int32) ≤ 0) (rc_ge_f h)
theorem c_rowRegs_23 {n : Nat} (x : Int32) (hv : v 12 = Int32.ofNat n) (hn : n ≤ 3) : rz_C xs xl 36 [.ref 23, .int x] (rz_w v a g) (fun q w' => (∃ u, q = .inl (some (.int u))) ∧ w' = rz_w v a g) := by
  refine ev_ps 4 rfl ?_
  refine ev_loop (α := Nat × Int32) (fun q => n - q.1) (fun q => q.1 ≤ n) (fun q => [some (.ref 23), some (.int x), some (.int q.2), some (.int (Int32.ofNat q.1))]) (fun _ => []) (fun _ => rz_w v a g) ?_ (0, x) (Nat.zero_le _)
  rintro ⟨k, y⟩ hk ih
  dsimp only at hk ih ⊢
  refine ev_ps 3 rfl (ev_ic (cd := .ge) rfl (fun h => ?_) (fun h => ?_))
  · exact ev_ps 1 rfl (ev_ret rfl rfl ⟨⟨_, rfl⟩, rfl⟩)
  · rw [hv] at h
    have hk' : k < n := rn_ge_f (by omega) (by omega) h
    refine ev_ps 3 rfl (ev_ald rfl rfl (rz_in (by omega) (by decide)) ?_)
    refine ev_ps 1 rfl (ev_call (av := [_, _]) rfl rfl rfl rfl ⟨Nat.le_of_ble_eq_true rfl, rfl⟩ ⟨Nat.le_of_ble_eq_true rfl, Nat.le_of_ble_eq_true rfl⟩ (c_regsAfter _ _) ?_)
    rintro _ _ ⟨⟨u, rfl⟩, rfl⟩
    have h9 := ih (k + 1, u) (by show k + 1 ≤ n; omega) (by show n - (k + 1) < n - k; omega)
    dsimp only at h9
    rw [← rz_succ k] at h9
    exact ev_ps 3 rfl h9
theorem c_numbers {n : Nat} (hv : v 11 = Int32.ofNat n) (hn : n ≤ 3) : rz_C xs xl 40 [.ref 21] (rz_w v a g) (fun q w' => (∃ u, q = .inl (some (.int u))) ∧ w' = rz_w v a g) := by
  refine ev_ps 4 rfl ?_
  refine ev_loop (α := Nat × Int32) (fun q => n - q.1) (fun q => q.1 ≤ n) (fun q => [some (.ref 21), some (.int q.2), some (.int (Int32.ofNat q.1))]) (fun _ => []) (fun _ => rz_w v a g) ?_ (0, 0) (Nat.zero_le _)
  rintro ⟨k, y⟩ hk ih
  dsimp only at hk ih ⊢
  have next : k < n → ∀ y : Int32, rz_E xs xl 40 38 [some (.ref 21), some (.int y), some (.int (Int32.ofNat k))] [] (rz_w v a g) 0 0 (fun q w' => (∃ u, q = .inl (some (.int u))) ∧ w' = rz_w v a g) := fun hkn y => by
    have h9 := ih (k + 1, y) (by show k + 1 ≤ n; omega) (by show n - (k + 1) < n - k; omega)
    dsimp only at h9
    rw [← rz_succ k] at h9
    exact ev_ps 2 rfl h9
  refine ev_ps 3 rfl (ev_ic (cd := .ge) rfl (fun h => ?_) (fun h => ?_))
  · exact ev_ps 1 rfl (ev_ret rfl rfl ⟨⟨_, rfl⟩, rfl⟩)
  · rw [hv] at h
    have hk' : k < n := rn_ge_f (by omega) (by omega) h
    refine ev_ps 3 rfl (ev_ald rfl rfl (rz_in (by omega) (by decide)) ?_)
    refine ev_call (av := [_]) rfl rfl rfl rfl ⟨Nat.le_of_ble_eq_true rfl, rfl⟩ ⟨Nat.le_of_ble_eq_true rfl, Nat.le_of_ble_eq_true rfl⟩ (c_hasNumber _) ?_
    rintro _ _ ⟨⟨u, hu, rfl⟩, rfl⟩
    refine ev_if (cd := .eq) rfl (fun h2 => next hk' _) (fun h2 => ?_)
    refine ev_ps 5 rfl (ev_ald rfl rfl (rz_in (by omega) (by decide)) ?_)
    refine ev_call (av := [_]) rfl rfl rfl rfl ⟨Nat.le_of_ble_eq_true rfl, rfl⟩ ⟨Nat.le_of_ble_eq_true rfl, Nat.le_of_ble_eq_true rfl⟩ (c_t _) ?_
    rintro _ _ ⟨rfl, rfl⟩
    exact ev_ps 3 rfl (next hk' _)
theorem c_maskOf {w : rz_W} (x : Int32) : rz_C xs xl 32 [.int x] w (fun q w' => (∃ u, q = .inl (some (.int u))) ∧ w' = w) := by
  refine ev_ps 4 rfl ?_
  refine ev_loop (α := Nat × Int32) (fun q => 4 - q.1) (fun q => q.1 ≤ 4) (fun q => [some (.int x), some (.int q.2), some (.int (Int32.ofNat q.1))]) (fun _ => []) (fun _ => w) ?_ (0, 0) (Nat.zero_le _)
  rintro ⟨k, y⟩ hk ih
  dsimp only at hk ih ⊢
  have next : k < 4 → ∀ y : Int32, rz_E xs xl 32 27 [some (.int x), some (.int y), some (.int (Int32.ofNat k))] [] w 0 0 (fun q w' => (∃ u, q = .inl (some (.int u))) ∧ w' = w) := fun hkn y => by
    have h9 := ih (k + 1, y) (by show k + 1 ≤ 4; omega) (by show 4 - (k + 1) < 4 - k; omega)
    dsimp only at h9
    rw [← rz_succ k] at h9
    exact ev_ps 2 rfl h9
  refine ev_ps 2 rfl (ev_ic (cd := .ge) rfl (fun h => ?_) (fun h => ?_))
  · exact ev_ps 1 rfl (ev_ret rfl rfl ⟨⟨_, rfl⟩, rfl⟩)
  · have hk' : k < 4 := rn_ge_f (k := 4) (by omega) (by omega) h
    refine ev_ps 6 rfl (ev_ic (cd := .ne) rfl (fun h2 => next hk' _) (fun h2 => ?_))
    exact ev_ps 8 rfl (next hk' _)
end RZP2
/-! liveness and provers at each of their places -/
section RZP3
variable {xs : Nat → Int32} {xl : Nat} {v : Nat → Int32} {a : Nat → Nat → Int32} {g : Nat → Int64}
theorem rz_minIdx {n : Nat} (c : Int32) (hn : n ≤ 24) : ¬ ((if Int32.ofNat n < c &&& 31 then Int32.ofNat n else c &&& 31) < 0 ∨ 25 ≤ (if Int32.ofNat n < c &&& 31 then Int32.ofNat n else c &&& 31).toNatClampNeg) := by
  obtain ⟨j, hj, e⟩ := rz_mask c 31 (by decide)
  have e' : c &&& 31 = Int32.ofNat j := e
  rw [e']
  by_cases h : n < j
  · rw [if_pos ((rz_lt_iff (by omega) (by omega)).mpr h)]
    exact rz_in (by omega) (by decide)
  · rw [if_neg (fun q => h ((rz_lt_iff (by omega) (by omega)).mp q))]
    exact rz_in (by omega) (by decide)
theorem c_before_6 {k : Nat} (hk : k ≤ 24) : rz_C xs xl 31 [.ref 6, .int (Int32.ofNat k)] (rz_w v a g) (fun q w' => (∃ u, q = .inl (some (.int u))) ∧ w' = rz_w v a g) := by
  refine ev_ps 3 rfl (ev_ald rfl rfl (rz_in (by omega) (by decide)) ?_)
  exact ev_ret rfl rfl ⟨⟨_, rfl⟩, rfl⟩
theorem c_fill_6 (x : Int32) : rz_C xs xl 11 [.ref 7, .int x] (rz_w v a g) (fun q w' => q = .inl none ∧ ∃ f, w' = rz_w v (rz_ua a 3 f) g) := by
  refine ev_ps 5 rfl (ev_w (w2 := rz_w v (rz_ua a 3 (a 3)) g) rfl ?_)
  refine ev_loop (α := Nat × (Nat → Int32)) (fun q => 25 - q.1) (fun q => q.1 ≤ 25) (fun q => [some (.ref 7), some (.int x), some (.int (Int32.ofNat q.1)), some (.int (Int32.ofNat 25))]) (fun _ => []) (fun q => rz_w v (rz_ua a 3 q.2) g) ?_ (0, a 3) (Nat.zero_le _)
  rintro ⟨k, f⟩ hk ih
  dsimp only at hk ih ⊢
  refine ev_ps 2 rfl (ev_ic (cd := .ge) rfl (fun h => ?_) (fun h => ?_))
  · exact ev_ret rfl rfl ⟨rfl, f, rfl⟩
  · have hk' : k < 25 := rn_ge_f (by omega) (by omega) h
    refine ev_ps 3 rfl (ev_ast rfl rfl (rz_in hk' (by decide)) ?_)
    have h9 := fun f2 => ih (k + 1, f2) (by show k + 1 ≤ 25; omega) (by show 25 - (k + 1) < 25 - k; omega)
    dsimp only at h9
    rw [← rz_succ k] at h9
    exact ev_w (w2 := rz_w v (rz_ua a 3 (upd f (Int32.ofNat k).toNatClampNeg _)) g) rfl (ev_ps 2 rfl (h9 _))
theorem c_behind_6 {n k : Nat} (hv : v 0 = Int32.ofNat n) (hn : n ≤ 24) (hk : k < 24) : rz_C xs xl 14 [.ref 6, .ref 1, .int (Int32.ofNat k)] (rz_w v a g) (fun q w' => (∃ u, q = .inl (some (.int u))) ∧ w' = rz_w v a g) := by
  refine ev_ps 2 rfl (ev_call (av := [_, _]) rfl rfl rfl rfl ⟨Nat.le_of_ble_eq_true rfl, rfl⟩ ⟨Nat.le_of_ble_eq_true rfl, Nat.le_of_ble_eq_true rfl⟩ (c_codeAt (by omega)) ?_)
  rintro _ _ ⟨⟨c, rfl⟩, rfl⟩
  refine ev_ps 4 rfl (ev_call (av := [_]) rfl rfl rfl rfl ⟨Nat.le_of_ble_eq_true rfl, rfl⟩ ⟨Nat.le_of_ble_eq_true rfl, Nat.le_of_ble_eq_true rfl⟩ (c_t _) ?_)
  rintro _ _ ⟨rfl, rfl⟩
  refine ev_ps 1 rfl (ev_call (av := [_]) rfl rfl rfl rfl ⟨Nat.le_of_ble_eq_true rfl, rfl⟩ ⟨Nat.le_of_ble_eq_true rfl, Nat.le_of_ble_eq_true rfl⟩ (c_length) ?_)
  rintro _ _ ⟨rfl, rfl⟩
  refine ev_min rfl (Nat.le_of_ble_eq_true rfl) ?_
  refine ev_ald rfl rfl (by rw [hv]; exact rz_minIdx c hn) ?_
  have hin : ¬ (Int32.ofNat k + Int32.ofInt 1 < 0 ∨ 25 ≤ (Int32.ofNat k + Int32.ofInt 1).toNatClampNeg) := by
    rw [show Int32.ofNat k + Int32.ofInt 1 = Int32.ofNat (k + 1) from rz_succ k]
    exact rz_in (by omega) (by decide)
  refine ev_ps 2 rfl (ev_call (av := [_]) rfl rfl rfl rfl ⟨Nat.le_of_ble_eq_true rfl, rfl⟩ ⟨Nat.le_of_ble_eq_true rfl, Nat.le_of_ble_eq_true rfl⟩ (c_operation _) ?_)
  rintro _ _ ⟨rfl, rfl⟩
  refine ev_tsw rfl (fun t ht => ?_)
  rcases rz_mem4 ht with rfl | rfl | rfl | rfl
  · refine ev_ps 5 rfl (ev_ald rfl rfl hin ?_)
    exact ev_ret rfl rfl ⟨⟨_, rfl⟩, rfl⟩
  · refine ev_ps 5 rfl (ev_ald rfl rfl hin ?_)
    exact ev_ps 2 rfl (ev_ret rfl rfl ⟨⟨_, rfl⟩, rfl⟩)
  · refine ev_ps 5 rfl (ev_ald rfl rfl hin ?_)
    exact ev_ps 2 rfl (ev_ret rfl rfl ⟨⟨_, rfl⟩, rfl⟩)
  · exact ev_ps 1 rfl (ev_ret rfl rfl ⟨⟨_, rfl⟩, rfl⟩)
theorem c_findMore_6 {n : Nat} (hv : v 0 = Int32.ofNat n) (hn : n ≤ 24) : rz_C xs xl 12 [.ref 6, .ref 1] (rz_w v a g) (fun q w' => (∃ u, (u = 0 ∨ u = 1) ∧ q = .inl (some (.int u))) ∧ ∃ f, w' = rz_w v (rz_ua a 3 f) g) := by
  refine ev_ps 3 rfl (ev_call (av := [_]) rfl rfl rfl rfl ⟨Nat.le_of_ble_eq_true rfl, rfl⟩ ⟨Nat.le_of_ble_eq_true rfl, Nat.le_of_ble_eq_true rfl⟩ (c_length) ?_)
  rintro _ _ ⟨rfl, rfl⟩
  refine ev_ps 3 rfl ?_
  suffices H : ∀ (m : Int32) (t4 t5 t6 : Option Value) (k : Nat) (f : Nat → Int32), k ≤ n → (m = 0 ∨ m = 1) → rz_E xs xl 12 9 [some (.ref 6), some (.ref 1), some (.int m), some (.int (Int32.ofNat k - 1)), t4, t5, t6] [] (rz_w v (rz_ua a 3 f) g) 0 0 (fun q w' => (∃ u, (u = 0 ∨ u = 1) ∧ q = .inl (some (.int u))) ∧ ∃ f, w' = rz_w v (rz_ua a 3 f) g) by
    refine ev_l (L2 := [some (.ref 6), some (.ref 1), some (.int 0), some (.int (Int32.ofNat n - 1)), none, none, none]) (by rw [← hv]; rfl) ?_
    exact ev_w (w2 := rz_w v (rz_ua a 3 (a 3)) g) rfl (H 0 none none none n (a 3) (Nat.le_refl _) (Or.inl rfl))
  intro m t4 t5 t6 k f hk hm
  refine ev_loop (α := Nat × Int32 × Option Value × Option Value × Option Value × (Nat → Int32)) (fun q => q.1) (fun q => q.1 ≤ n ∧ (q.2.1 = 0 ∨ q.2.1 = 1)) (fun q => [some (.ref 6), some (.ref 1), some (.int q.2.1), some (.int (Int32.ofNat q.1 - 1)), q.2.2.1, q.2.2.2.1, q.2.2.2.2.1]) (fun _ => []) (fun q => rz_w v (rz_ua a 3 q.2.2.2.2.2) g) ?_ (k, m, t4, t5, t6, f) ⟨hk, hm⟩
  rintro ⟨k, m, t4, t5, t6, f⟩ ⟨hk, hm⟩ ih
  dsimp only at hk hm ih ⊢
  refine ev_ps 1 rfl (ev_if (cd := .lt) rfl (fun h => ?_) (fun h => ?_))
  · refine ev_ps 1 rfl (ev_ret rfl (show (if m = 0 ∨ m = 1 then some (some (Value.int m)) else none) = _ from if_pos hm) ⟨⟨_, hm, rfl⟩, _, rfl⟩)
  · have hk0 : 0 < k := by
      rcases Nat.eq_zero_or_pos k with rfl | h0
      · exact absurd (by decide : Int32.ofNat 0 - 1 < 0) (rc_lt_f h)
      · exact h0
    have e : Int32.ofNat k - 1 = Int32.ofNat (k - 1) := rz_sub (n := 1) hk0
    rw [e]
    have next : ∀ (m : Int32) (t4 t5 t6 : Option Value) (f : Nat → Int32), (m = 0 ∨ m = 1) → rz_E xs xl 12 70 [some (.ref 6), some (.ref 1), some (.int m), some (.int (Int32.ofNat (k - 1))), t4, t5, t6] [] (rz_w v (rz_ua a 3 f) g) 0 0 (fun q w' => (∃ u, (u = 0 ∨ u = 1) ∧ q = .inl (some (.int u))) ∧ ∃ f, w' = rz_w v (rz_ua a 3 f) g) := by
      intro m t4 t5 t6 f hm
      have h9 := ih (k - 1, m, t4, t5, t6, f) ⟨by show k - 1 ≤ n; omega, hm⟩ (by show k - 1 < k; omega)
      dsimp only at h9
      rw [show Int32.ofNat (k - 1) - 1 = Int32.ofNat (k - 1) + Int32.ofInt (-1) from Int32.sub_eq_add_neg _ _] at h9
      exact ev_ps 2 rfl h9
    refine ev_ps 2 rfl (ev_call (av := [_, _]) rfl rfl rfl rfl ⟨Nat.le_of_ble_eq_true rfl, rfl⟩ ⟨Nat.le_of_ble_eq_true rfl, Nat.le_of_ble_eq_true rfl⟩ (c_codeAt (by omega)) ?_)
    rintro _ _ ⟨⟨c, rfl⟩, rfl⟩
    refine ev_ps 4 rfl (ev_call (av := [_, _, _]) rfl rfl rfl rfl ⟨Nat.le_of_ble_eq_true rfl, rfl⟩ ⟨Nat.le_of_ble_eq_true rfl, Nat.le_of_ble_eq_true rfl⟩ (c_behind_6 hv hn (by omega)) ?_)
    rintro _ _ ⟨⟨b, rfl⟩, rfl⟩
    refine ev_ps 1 rfl (ev_call (av := [_]) rfl rfl rfl rfl ⟨Nat.le_of_ble_eq_true rfl, rfl⟩ ⟨Nat.le_of_ble_eq_true rfl, Nat.le_of_ble_eq_true rfl⟩ (c_writtenBy _) ?_)
    rintro _ _ ⟨⟨b2, rfl⟩, rfl⟩
    refine ev_ps 5 rfl (ev_call (av := [_]) rfl rfl rfl rfl ⟨Nat.le_of_ble_eq_true rfl, rfl⟩ ⟨Nat.le_of_ble_eq_true rfl, Nat.le_of_ble_eq_true rfl⟩ (c_readBy _) ?_)
    rintro _ _ ⟨⟨b3, rfl⟩, rfl⟩
    refine ev_ps 9 rfl (ev_ald rfl rfl (rz_in (by omega) (by decide)) ?_)
    refine ev_ic (cd := .eq) rfl (fun h2 => next _ _ _ _ _ hm) (fun h2 => ?_)
    refine ev_ps 4 rfl (ev_ast rfl rfl (rz_in (by omega) (by decide)) ?_)
    exact ev_w (w2 := rz_w v (rz_ua a 3 (upd f (Int32.ofNat (k - 1)).toNatClampNeg _)) g) rfl (ev_ps 2 rfl (next 1 _ _ _ _ (Or.inr rfl)))
theorem c_findFor_6 {n : Nat} (hv : v 0 = Int32.ofNat n) (hn : n ≤ 24) : rz_C xs xl 10 [.ref 6, .ref 1] (rz_w v a g) (fun q w' => q = .inl none ∧ ∃ f, w' = rz_w v (rz_ua a 3 f) g) := by
  refine ev_ps 3 rfl (ev_call (av := [_, _]) rfl rfl rfl rfl ⟨Nat.le_of_ble_eq_true rfl, rfl⟩ ⟨Nat.le_of_ble_eq_true rfl, Nat.le_of_ble_eq_true rfl⟩ (c_fill_6 _) ?_)
  rintro _ _ ⟨rfl, f0, rfl⟩
  refine ev_ps 3 rfl (ev_call (av := [_]) rfl rfl rfl rfl ⟨Nat.le_of_ble_eq_true rfl, rfl⟩ ⟨Nat.le_of_ble_eq_true rfl, Nat.le_of_ble_eq_true rfl⟩ (c_length) ?_)
  rintro _ _ ⟨rfl, rfl⟩
  refine ev_ps 1 rfl (ev_ast rfl rfl (by rw [hv]; exact rz_in (by omega) (by decide)) ?_)
  refine ev_w (w2 := rz_w v (rz_ua a 3 (upd f0 (v 0).toNatClampNeg _)) g) rfl ?_
  refine ev_ps 4 rfl ?_
  refine ev_loop (α := Nat × Int32 × (Nat → Int32)) (fun q => 73 - q.1) (fun q => q.1 ≤ 73) (fun q => [some (.ref 6), some (.ref 1), some (.int q.2.1), some (.int (Int32.ofNat q.1))]) (fun _ => []) (fun q => rz_w v (rz_ua a 3 q.2.2) g) ?_ (0, 1, _) (Nat.zero_le _)
  rintro ⟨k, m, f⟩ hk ih
  dsimp only at hk ih ⊢
  refine ev_ps 1 rfl (ev_if (cd := .eq) rfl (fun h => ?_) (fun h => ?_))
  · exact ev_ret rfl rfl ⟨rfl, f, rfl⟩
  · refine ev_ps 2 rfl (ev_ic (cd := .ge) rfl (fun h => ?_) (fun h => ?_))
    · exact ev_ret rfl rfl ⟨rfl, f, rfl⟩
    · have hk' : k < 73 := rn_ge_f (k := 73) (by omega) (by omega) h
      refine ev_ps 2 rfl (ev_call (av := [_, _]) rfl rfl rfl rfl ⟨Nat.le_of_ble_eq_true rfl, rfl⟩ ⟨Nat.le_of_ble_eq_true rfl, Nat.le_of_ble_eq_true rfl⟩ (c_findMore_6 (a := rz_ua a 3 f) hv hn) ?_)
      rintro _ _ ⟨⟨u, hu, rfl⟩, f2, rfl⟩
      have h9 := ih (k + 1, u, f2) (by show k + 1 ≤ 73; omega) (by show 73 - (k + 1) < 73 - k; omega)
      dsimp only at h9
      rw [← rz_succ k] at h9
      exact ev_w (w2 := rz_w v (rz_ua a 3 f2) g) rfl (ev_ps 3 rfl h9)
theorem c_before_14 {k : Nat} (hk : k ≤ 24) : rz_C xs xl 31 [.ref 14, .int (Int32.ofNat k)] (rz_w v a g) (fun q w' => (∃ u, q = .inl (some (.int u))) ∧ w' = rz_w v a g) := by
  refine ev_ps 3 rfl (ev_ald rfl rfl (rz_in (by omega) (by decide)) ?_)
  exact ev_ret rfl rfl ⟨⟨_, rfl⟩, rfl⟩
theorem c_fill_14 (x : Int32) : rz_C xs xl 11 [.ref 15, .int x] (rz_w v a g) (fun q w' => q = .inl none ∧ ∃ f, w' = rz_w v (rz_ua a 6 f) g) := by
  refine ev_ps 5 rfl (ev_w (w2 := rz_w v (rz_ua a 6 (a 6)) g) rfl ?_)
  refine ev_loop (α := Nat × (Nat → Int32)) (fun q => 25 - q.1) (fun q => q.1 ≤ 25) (fun q => [some (.ref 15), some (.int x), some (.int (Int32.ofNat q.1)), some (.int (Int32.ofNat 25))]) (fun _ => []) (fun q => rz_w v (rz_ua a 6 q.2) g) ?_ (0, a 6) (Nat.zero_le _)
  rintro ⟨k, f⟩ hk ih
  dsimp only at hk ih ⊢
  refine ev_ps 2 rfl (ev_ic (cd := .ge) rfl (fun h => ?_) (fun h => ?_))
  · exact ev_ret rfl rfl ⟨rfl, f, rfl⟩
  · have hk' : k < 25 := rn_ge_f (by omega) (by omega) h
    refine ev_ps 3 rfl (ev_ast rfl rfl (rz_in hk' (by decide)) ?_)
    have h9 := fun f2 => ih (k + 1, f2) (by show k + 1 ≤ 25; omega) (by show 25 - (k + 1) < 25 - k; omega)
    dsimp only at h9
    rw [← rz_succ k] at h9
    exact ev_w (w2 := rz_w v (rz_ua a 6 (upd f (Int32.ofNat k).toNatClampNeg _)) g) rfl (ev_ps 2 rfl (h9 _))
theorem c_behind_14 {n k : Nat} (hv : v 0 = Int32.ofNat n) (hn : n ≤ 24) (hk : k < 24) : rz_C xs xl 14 [.ref 14, .ref 1, .int (Int32.ofNat k)] (rz_w v a g) (fun q w' => (∃ u, q = .inl (some (.int u))) ∧ w' = rz_w v a g) := by
  refine ev_ps 2 rfl (ev_call (av := [_, _]) rfl rfl rfl rfl ⟨Nat.le_of_ble_eq_true rfl, rfl⟩ ⟨Nat.le_of_ble_eq_true rfl, Nat.le_of_ble_eq_true rfl⟩ (c_codeAt (by omega)) ?_)
  rintro _ _ ⟨⟨c, rfl⟩, rfl⟩
  refine ev_ps 4 rfl (ev_call (av := [_]) rfl rfl rfl rfl ⟨Nat.le_of_ble_eq_true rfl, rfl⟩ ⟨Nat.le_of_ble_eq_true rfl, Nat.le_of_ble_eq_true rfl⟩ (c_t _) ?_)
  rintro _ _ ⟨rfl, rfl⟩
  refine ev_ps 1 rfl (ev_call (av := [_]) rfl rfl rfl rfl ⟨Nat.le_of_ble_eq_true rfl, rfl⟩ ⟨Nat.le_of_ble_eq_true rfl, Nat.le_of_ble_eq_true rfl⟩ (c_length) ?_)
  rintro _ _ ⟨rfl, rfl⟩
  refine ev_min rfl (Nat.le_of_ble_eq_true rfl) ?_
  refine ev_ald rfl rfl (by rw [hv]; exact rz_minIdx c hn) ?_
  have hin : ¬ (Int32.ofNat k + Int32.ofInt 1 < 0 ∨ 25 ≤ (Int32.ofNat k + Int32.ofInt 1).toNatClampNeg) := by
    rw [show Int32.ofNat k + Int32.ofInt 1 = Int32.ofNat (k + 1) from rz_succ k]
    exact rz_in (by omega) (by decide)
  refine ev_ps 2 rfl (ev_call (av := [_]) rfl rfl rfl rfl ⟨Nat.le_of_ble_eq_true rfl, rfl⟩ ⟨Nat.le_of_ble_eq_true rfl, Nat.le_of_ble_eq_true rfl⟩ (c_operation _) ?_)
  rintro _ _ ⟨rfl, rfl⟩
  refine ev_tsw rfl (fun t ht => ?_)
  rcases rz_mem4 ht with rfl | rfl | rfl | rfl
  · refine ev_ps 5 rfl (ev_ald rfl rfl hin ?_)
    exact ev_ret rfl rfl ⟨⟨_, rfl⟩, rfl⟩
  · refine ev_ps 5 rfl (ev_ald rfl rfl hin ?_)
    exact ev_ps 2 rfl (ev_ret rfl rfl ⟨⟨_, rfl⟩, rfl⟩)
  · refine ev_ps 5 rfl (ev_ald rfl rfl hin ?_)
    exact ev_ps 2 rfl (ev_ret rfl rfl ⟨⟨_, rfl⟩, rfl⟩)
  · exact ev_ps 1 rfl (ev_ret rfl rfl ⟨⟨_, rfl⟩, rfl⟩)
theorem c_findMore_14 {n : Nat} (hv : v 0 = Int32.ofNat n) (hn : n ≤ 24) : rz_C xs xl 12 [.ref 14, .ref 1] (rz_w v a g) (fun q w' => (∃ u, (u = 0 ∨ u = 1) ∧ q = .inl (some (.int u))) ∧ ∃ f, w' = rz_w v (rz_ua a 6 f) g) := by
  refine ev_ps 3 rfl (ev_call (av := [_]) rfl rfl rfl rfl ⟨Nat.le_of_ble_eq_true rfl, rfl⟩ ⟨Nat.le_of_ble_eq_true rfl, Nat.le_of_ble_eq_true rfl⟩ (c_length) ?_)
  rintro _ _ ⟨rfl, rfl⟩
  refine ev_ps 3 rfl ?_
  suffices H : ∀ (m : Int32) (t4 t5 t6 : Option Value) (k : Nat) (f : Nat → Int32), k ≤ n → (m = 0 ∨ m = 1) → rz_E xs xl 12 9 [some (.ref 14), some (.ref 1), some (.int m), some (.int (Int32.ofNat k - 1)), t4, t5, t6] [] (rz_w v (rz_ua a 6 f) g) 0 0 (fun q w' => (∃ u, (u = 0 ∨ u = 1) ∧ q = .inl (some (.int u))) ∧ ∃ f, w' = rz_w v (rz_ua a 6 f) g) by
    refine ev_l (L2 := [some (.ref 14), some (.ref 1), some (.int 0), some (.int (Int32.ofNat n - 1)), none, none, none]) (by rw [← hv]; rfl) ?_
    exact ev_w (w2 := rz_w v (rz_ua a 6 (a 6)) g) rfl (H 0 none none none n (a 6) (Nat.le_refl _) (Or.inl rfl))
  intro m t4 t5 t6 k f hk hm
  refine ev_loop (α := Nat × Int32 × Option Value × Option Value × Option Value × (Nat → Int32)) (fun q => q.1) (fun q => q.1 ≤ n ∧ (q.2.1 = 0 ∨ q.2.1 = 1)) (fun q => [some (.ref 14), some (.ref 1), some (.int q.2.1), some (.int (Int32.ofNat q.1 - 1)), q.2.2.1, q.2.2.2.1, q.2.2.2.2.1]) (fun _ => []) (fun q => rz_w v (rz_ua a 6 q.2.2.2.2.2) g) ?_ (k, m, t4, t5, t6, f) ⟨hk, hm⟩
  rintro ⟨k, m, t4, t5, t6, f⟩ ⟨hk, hm⟩ ih
  dsimp only at hk hm ih ⊢
  refine ev_ps 1 rfl (ev_if (cd := .lt) rfl (fun h => ?_) (fun h => ?_))
  · refine ev_ps 1 rfl (ev_ret rfl (show (if m = 0 ∨ m = 1 then some (some (Value.int m)) else none) = _ from if_pos hm) ⟨⟨_, hm, rfl⟩, _, rfl⟩)
  · have hk0 : 0 < k := by
      rcases Nat.eq_zero_or_pos k with rfl | h0
      · exact absurd (by decide : Int32.ofNat 0 - 1 < 0) (rc_lt_f h)
      · exact h0
    have e : Int32.ofNat k - 1 = Int32.ofNat (k - 1) := rz_sub (n := 1) hk0
    rw [e]
    have next : ∀ (m : Int32) (t4 t5 t6 : Option Value) (f : Nat → Int32), (m = 0 ∨ m = 1) → rz_E xs xl 12 70 [some (.ref 14), some (.ref 1), some (.int m), some (.int (Int32.ofNat (k - 1))), t4, t5, t6] [] (rz_w v (rz_ua a 6 f) g) 0 0 (fun q w' => (∃ u, (u = 0 ∨ u = 1) ∧ q = .inl (some (.int u))) ∧ ∃ f, w' = rz_w v (rz_ua a 6 f) g) := by
      intro m t4 t5 t6 f hm
      have h9 := ih (k - 1, m, t4, t5, t6, f) ⟨by show k - 1 ≤ n; omega, hm⟩ (by show k - 1 < k; omega)
      dsimp only at h9
      rw [show Int32.ofNat (k - 1) - 1 = Int32.ofNat (k - 1) + Int32.ofInt (-1) from Int32.sub_eq_add_neg _ _] at h9
      exact ev_ps 2 rfl h9
    refine ev_ps 2 rfl (ev_call (av := [_, _]) rfl rfl rfl rfl ⟨Nat.le_of_ble_eq_true rfl, rfl⟩ ⟨Nat.le_of_ble_eq_true rfl, Nat.le_of_ble_eq_true rfl⟩ (c_codeAt (by omega)) ?_)
    rintro _ _ ⟨⟨c, rfl⟩, rfl⟩
    refine ev_ps 4 rfl (ev_call (av := [_, _, _]) rfl rfl rfl rfl ⟨Nat.le_of_ble_eq_true rfl, rfl⟩ ⟨Nat.le_of_ble_eq_true rfl, Nat.le_of_ble_eq_true rfl⟩ (c_behind_14 hv hn (by omega)) ?_)
    rintro _ _ ⟨⟨b, rfl⟩, rfl⟩
    refine ev_ps 1 rfl (ev_call (av := [_]) rfl rfl rfl rfl ⟨Nat.le_of_ble_eq_true rfl, rfl⟩ ⟨Nat.le_of_ble_eq_true rfl, Nat.le_of_ble_eq_true rfl⟩ (c_writtenBy _) ?_)
    rintro _ _ ⟨⟨b2, rfl⟩, rfl⟩
    refine ev_ps 5 rfl (ev_call (av := [_]) rfl rfl rfl rfl ⟨Nat.le_of_ble_eq_true rfl, rfl⟩ ⟨Nat.le_of_ble_eq_true rfl, Nat.le_of_ble_eq_true rfl⟩ (c_readBy _) ?_)
    rintro _ _ ⟨⟨b3, rfl⟩, rfl⟩
    refine ev_ps 9 rfl (ev_ald rfl rfl (rz_in (by omega) (by decide)) ?_)
    refine ev_ic (cd := .eq) rfl (fun h2 => next _ _ _ _ _ hm) (fun h2 => ?_)
    refine ev_ps 4 rfl (ev_ast rfl rfl (rz_in (by omega) (by decide)) ?_)
    exact ev_w (w2 := rz_w v (rz_ua a 6 (upd f (Int32.ofNat (k - 1)).toNatClampNeg _)) g) rfl (ev_ps 2 rfl (next 1 _ _ _ _ (Or.inr rfl)))
theorem c_findFor_14 {n : Nat} (hv : v 0 = Int32.ofNat n) (hn : n ≤ 24) : rz_C xs xl 10 [.ref 14, .ref 1] (rz_w v a g) (fun q w' => q = .inl none ∧ ∃ f, w' = rz_w v (rz_ua a 6 f) g) := by
  refine ev_ps 3 rfl (ev_call (av := [_, _]) rfl rfl rfl rfl ⟨Nat.le_of_ble_eq_true rfl, rfl⟩ ⟨Nat.le_of_ble_eq_true rfl, Nat.le_of_ble_eq_true rfl⟩ (c_fill_14 _) ?_)
  rintro _ _ ⟨rfl, f0, rfl⟩
  refine ev_ps 3 rfl (ev_call (av := [_]) rfl rfl rfl rfl ⟨Nat.le_of_ble_eq_true rfl, rfl⟩ ⟨Nat.le_of_ble_eq_true rfl, Nat.le_of_ble_eq_true rfl⟩ (c_length) ?_)
  rintro _ _ ⟨rfl, rfl⟩
  refine ev_ps 1 rfl (ev_ast rfl rfl (by rw [hv]; exact rz_in (by omega) (by decide)) ?_)
  refine ev_w (w2 := rz_w v (rz_ua a 6 (upd f0 (v 0).toNatClampNeg _)) g) rfl ?_
  refine ev_ps 4 rfl ?_
  refine ev_loop (α := Nat × Int32 × (Nat → Int32)) (fun q => 73 - q.1) (fun q => q.1 ≤ 73) (fun q => [some (.ref 14), some (.ref 1), some (.int q.2.1), some (.int (Int32.ofNat q.1))]) (fun _ => []) (fun q => rz_w v (rz_ua a 6 q.2.2) g) ?_ (0, 1, _) (Nat.zero_le _)
  rintro ⟨k, m, f⟩ hk ih
  dsimp only at hk ih ⊢
  refine ev_ps 1 rfl (ev_if (cd := .eq) rfl (fun h => ?_) (fun h => ?_))
  · exact ev_ret rfl rfl ⟨rfl, f, rfl⟩
  · refine ev_ps 2 rfl (ev_ic (cd := .ge) rfl (fun h => ?_) (fun h => ?_))
    · exact ev_ret rfl rfl ⟨rfl, f, rfl⟩
    · have hk' : k < 73 := rn_ge_f (k := 73) (by omega) (by omega) h
      refine ev_ps 2 rfl (ev_call (av := [_, _]) rfl rfl rfl rfl ⟨Nat.le_of_ble_eq_true rfl, rfl⟩ ⟨Nat.le_of_ble_eq_true rfl, Nat.le_of_ble_eq_true rfl⟩ (c_findMore_14 (a := rz_ua a 6 f) hv hn) ?_)
      rintro _ _ ⟨⟨u, hu, rfl⟩, f2, rfl⟩
      have h9 := ih (k + 1, u, f2) (by show k + 1 ≤ 73; omega) (by show 73 - (k + 1) < 73 - k; omega)
      dsimp only at h9
      rw [← rz_succ k] at h9
      exact ev_w (w2 := rz_w v (rz_ua a 6 f2) g) rfl (ev_ps 3 rfl h9)
theorem c_agree_8 {n1 n2 : Nat} (x : Int32) (h1 : v 6 = Int32.ofNat n1) (hn1 : n1 ≤ 3) (h2 : v 7 = Int32.ofNat n2) (hn2 : n2 ≤ 3) : rz_C xs xl 35 [.ref 8, .ref 9, .ref 11, .int x] (rz_w v a g) (fun q w' => (∃ u, (u = 0 ∨ u = 1) ∧ q = .inl (some (.int u))) ∧ ∃ d, w' = rz_w (rz_up v 5 d) a g) := by
  refine ev_ps 2 rfl ?_
  refine ev_loop (α := Nat × Option Value × Option Value × Option Value) (fun q => 4096 - q.1) (fun q => q.1 ≤ 4096) (fun q => [some (.ref 8), some (.ref 9), some (.ref 11), some (.int x), some (.int (Int32.ofNat q.1)), q.2.1, q.2.2.1, q.2.2.2]) (fun _ => []) (fun _ => rz_w v a g) ?_ (0, none, none, none) (Nat.zero_le _)
  rintro ⟨k, t5, t6, t7⟩ hk ih
  dsimp only at hk ih ⊢
  refine ev_ps 2 rfl (ev_ic (cd := .ge) rfl (fun h => ?_) (fun h => ?_))
  · exact ev_ps 1 rfl (ev_ret rfl rfl ⟨⟨1, Or.inr rfl, rfl⟩, v 5, rfl⟩)
  · have hk' : k < 4096 := rn_ge_f (k := 4096) (by omega) (by omega) h
    refine ev_ps 15 rfl ?_
    refine ev_ps 0 rfl (ev_call (av := [_, _]) rfl rfl rfl rfl ⟨Nat.le_of_ble_eq_true rfl, rfl⟩ ⟨Nat.le_of_ble_eq_true rfl, Nat.le_of_ble_eq_true rfl⟩ (c_rowRegs_9 _ h1 hn1) ?_)
    rintro _ _ ⟨⟨u1, rfl⟩, rfl⟩
    refine ev_ps 2 rfl (ev_call (av := [_, _]) rfl rfl rfl rfl ⟨Nat.le_of_ble_eq_true rfl, rfl⟩ ⟨Nat.le_of_ble_eq_true rfl, Nat.le_of_ble_eq_true rfl⟩ (c_rowRegs_11 _ h2 hn2) ?_)
    rintro _ _ ⟨⟨u2, rfl⟩, rfl⟩
    refine ev_ps 5 rfl (ev_if (cd := .eq) rfl (fun h => ?_) (fun h => ?_))
    · have h9 := fun t5 t6 t7 => ih (k + 1, t5, t6, t7) (by show k + 1 ≤ 4096; omega) (by show 4096 - (k + 1) < 4096 - k; omega)
      dsimp only at h9
      rw [← rz_succ k] at h9
      exact ev_ps 2 rfl (h9 _ _ _)
    · exact ev_ps 4 rfl (ev_ret rfl rfl ⟨⟨0, Or.inl rfl, rfl⟩, _, rfl⟩)
theorem c_agree_16 {n1 n2 : Nat} (x : Int32) (h1 : v 11 = Int32.ofNat n1) (hn1 : n1 ≤ 3) (h2 : v 12 = Int32.ofNat n2) (hn2 : n2 ≤ 3) : rz_C xs xl 35 [.ref 16, .ref 21, .ref 23, .int x] (rz_w v a g) (fun q w' => (∃ u, (u = 0 ∨ u = 1) ∧ q = .inl (some (.int u))) ∧ ∃ d, w' = rz_w (rz_up v 8 d) a g) := by
  refine ev_ps 2 rfl ?_
  refine ev_loop (α := Nat × Option Value × Option Value × Option Value) (fun q => 4096 - q.1) (fun q => q.1 ≤ 4096) (fun q => [some (.ref 16), some (.ref 21), some (.ref 23), some (.int x), some (.int (Int32.ofNat q.1)), q.2.1, q.2.2.1, q.2.2.2]) (fun _ => []) (fun _ => rz_w v a g) ?_ (0, none, none, none) (Nat.zero_le _)
  rintro ⟨k, t5, t6, t7⟩ hk ih
  dsimp only at hk ih ⊢
  refine ev_ps 2 rfl (ev_ic (cd := .ge) rfl (fun h => ?_) (fun h => ?_))
  · exact ev_ps 1 rfl (ev_ret rfl rfl ⟨⟨1, Or.inr rfl, rfl⟩, v 8, rfl⟩)
  · have hk' : k < 4096 := rn_ge_f (k := 4096) (by omega) (by omega) h
    refine ev_ps 15 rfl ?_
    refine ev_ps 0 rfl (ev_call (av := [_, _]) rfl rfl rfl rfl ⟨Nat.le_of_ble_eq_true rfl, rfl⟩ ⟨Nat.le_of_ble_eq_true rfl, Nat.le_of_ble_eq_true rfl⟩ (c_rowRegs_21 _ h1 hn1) ?_)
    rintro _ _ ⟨⟨u1, rfl⟩, rfl⟩
    refine ev_ps 2 rfl (ev_call (av := [_, _]) rfl rfl rfl rfl ⟨Nat.le_of_ble_eq_true rfl, rfl⟩ ⟨Nat.le_of_ble_eq_true rfl, Nat.le_of_ble_eq_true rfl⟩ (c_rowRegs_23 _ h2 hn2) ?_)
    rintro _ _ ⟨⟨u2, rfl⟩, rfl⟩
    refine ev_ps 5 rfl (ev_if (cd := .eq) rfl (fun h => ?_) (fun h => ?_))
    · have h9 := fun t5 t6 t7 => ih (k + 1, t5, t6, t7) (by show k + 1 ≤ 4096; omega) (by show 4096 - (k + 1) < 4096 - k; omega)
      dsimp only at h9
      rw [← rz_succ k] at h9
      exact ev_ps 2 rfl (h9 _ _ _)
    · exact ev_ps 4 rfl (ev_ret rfl rfl ⟨⟨0, Or.inl rfl, rfl⟩, _, rfl⟩)
end RZP3
