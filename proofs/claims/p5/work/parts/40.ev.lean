/-! reasoning over the abstract machine: it comes to an end with a result that satisfies 'post' -/
section RZE
variable {xs : Nat → Int32} {xl : Nat}
variable {n M pc len x y z kc ks : Nat} {ins : Instr} {L : rz_L} {st : List Value} {w : rz_W}
theorem rz_u0 (h : rz_code M pc = some (0, ins, len, x, y, z)) : rz_run xs xl (n + 1) M pc L st w kc ks = (match rz_pure ins len x y pc L st w with
    | some (pc', L', st', w') => rz_run xs xl n M pc' L' st' w' kc ks
    | none => none) := by (rw [rz_run, h]) <;> rfl
theorem rz_u1 (h : rz_code M pc = some (1, ins, len, x, y, z)) : rz_run xs xl (n + 1) M pc L st w kc ks = (if y ≤ st.length ∧ kc + rz_MC x ≤ rz_MC M ∧ ks + rz_MS x ≤ rz_MS M ∧ rz_recv w x ins (st.take y).reverse = true ∧ ((st.drop y).map fun v => v.category).sum ≤ 8 ∧ ((st.take y).all fun v => decide (v.category = 1)) = true then
      (match rz_run xs xl n x 0 (rz_ent x (st.take y).reverse) [] w 0 0 with
      | some (.inl v, w') => rz_run xs xl n M (pc + len) L (v.toList ++ st.drop y) w' (kc + rz_MC x) (ks + rz_MS x)
      | some (.inr k, w') => (match rz_hnd M pc k with
        | some (hp, i) => rz_run xs xl n M hp (L.set i none) [] w' (kc + rz_MC x) (ks + rz_MS x)
        | none => none)
      | none => none)
    else none) := by (rw [rz_run, h]) <;> rfl
theorem rz_u2 (h : rz_code M pc = some (2, ins, len, x, y, z)) : rz_run xs xl (n + 1) M pc L st w kc ks = (match rz_end (rz_rt M) st with
    | some v => some (.inl v, w)
    | none => none) := by (rw [rz_run, h]) <;> rfl
theorem rz_u3 (h : rz_code M pc = some (3, ins, len, x, y, z)) : rz_run xs xl (n + 1) M pc L st w kc ks = (if st = [] ∧ kc + 1 ≤ rz_MC M ∧ ks + 6 ≤ rz_MS M then some (.inr x, w) else none) := by (rw [rz_run, h]) <;> rfl
theorem rz_mono1 : ∀ (n M pc : Nat) (L : rz_L) (st : List Value) (w : rz_W) (kc ks : Nat) (q : rz_R × rz_W), rz_run xs xl n M pc L st w kc ks = some q → rz_run xs xl (n + 1) M pc L st w kc ks = some q := by
  intro n
  induction n with
  | zero => intro M pc L st w kc ks q h; cases h
  | succ n ih =>
    intro M pc L st w kc ks q h
    cases hcd : rz_code M pc with
    | none => rw [rz_run, hcd] at h; cases h
    | some t =>
      obtain ⟨kd, ins, len, x, y, z⟩ := t
      by_cases k0 : kd = 0
      · subst k0
        rw [rz_u0 hcd] at h ⊢
        cases hp : rz_pure ins len x y pc L st w with
        | none => rw [hp] at h; cases h
        | some u =>
          obtain ⟨pc', L', st', w'⟩ := u
          rw [hp] at h
          exact ih _ _ _ _ _ _ _ _ h
      by_cases k1 : kd = 1
      · subst k1
        rw [rz_u1 hcd] at h ⊢
        split at h
        · rename_i hc
          rw [if_pos hc]
          cases hr : rz_run xs xl n x 0 (rz_ent x (st.take y).reverse) [] w 0 0 with
          | none => rw [hr] at h; cases h
          | some u =>
            rw [hr] at h
            rw [ih _ _ _ _ _ _ _ _ hr]
            obtain ⟨r, w1⟩ := u
            cases r with
            | inl v => exact ih _ _ _ _ _ _ _ _ h
            | inr k =>
              dsimp only at h ⊢
              cases hh : rz_hnd M pc k with
              | none => rw [hh] at h; cases h
              | some u2 =>
                obtain ⟨hp, i⟩ := u2
                rw [hh] at h
                exact ih _ _ _ _ _ _ _ _ h
        · cases h
      by_cases k2 : kd = 2
      · subst k2
        rw [rz_u2 hcd] at h ⊢
        exact h
      by_cases k3 : kd = 3
      · subst k3
        rw [rz_u3 hcd] at h ⊢
        exact h
      rw [rz_run, hcd] at h ⊢
      dsimp only at h ⊢
      split at h <;> first | contradiction | skip
      · split at h
        · rename_i hc
          rw [if_pos hc]
          split at h
          · split at h
            · rename_i hin
              rw [if_pos hin]
              exact ih _ _ _ _ _ _ _ _ h
            · cases h
          · exact ih _ _ _ _ _ _ _ _ h
          · cases h
        · cases h
      · split at h
        · split at h
          · split at h
            · rename_i hw0 hw1 hc
              rw [if_pos hc]
              exact ih _ _ _ _ _ _ _ _ h
            · cases h
          · cases h
        · cases h
      · split at h
        · split at h
          · rename_i hc
            rw [if_pos hc]
            exact ih _ _ _ _ _ _ _ _ h
          · cases h
        · cases h
theorem rz_mono {n' : Nat} {q : rz_R × rz_W} (h : rz_run xs xl n M pc L st w kc ks = some q) (hn : n ≤ n') : rz_run xs xl n' M pc L st w kc ks = some q := by
  obtain ⟨k, rfl⟩ := Nat.le.dest hn
  clear hn
  induction k with
  | zero => exact h
  | succ k ih => exact rz_mono1 _ _ _ _ _ _ _ _ _ ih
end RZE
def rz_E (xs : Nat → Int32) (xl M pc : Nat) (L : rz_L) (st : List Value) (w : rz_W) (kc ks : Nat) (post : rz_R → rz_W → Prop) : Prop := ∃ (n : Nat) (r : rz_R) (w' : rz_W), rz_run xs xl n M pc L st w kc ks = some (r, w') ∧ post r w'
/-- a method called with these arguments -/
def rz_C (xs : Nat → Int32) (xl M : Nat) (av : List Value) (w : rz_W) (post : rz_R → rz_W → Prop) : Prop := rz_E xs xl M 0 (rz_ent M av) [] w 0 0 post
/-- k pure steps at a stroke -/
def rz_ps (M : Nat) : Nat → Nat → rz_L → List Value → rz_W → Option (Nat × rz_L × List Value × rz_W)
  | 0, pc, L, st, w => some (pc, L, st, w)
  | k + 1, pc, L, st, w => match rz_code M pc with
    | some (0, ins, len, x, y, _) => match rz_pure ins len x y pc L st w with
      | some (pc', L', st', w') => rz_ps M k pc' L' st' w'
      | none => none
    | _ => none
section RZF
variable {xs : Nat → Int32} {xl M pc : Nat} {L : rz_L} {st : List Value} {w : rz_W} {kc ks : Nat} {post : rz_R → rz_W → Prop}
theorem ev_p {ins : Instr} {len x y z pc' : Nat} {L' : rz_L} {st' : List Value} {w' : rz_W} (hc : rz_code M pc = some (0, ins, len, x, y, z)) (hp : rz_pure ins len x y pc L st w = some (pc', L', st', w')) (k : rz_E xs xl M pc' L' st' w' kc ks post) : rz_E xs xl M pc L st w kc ks post := by
  obtain ⟨n, r, w1, h1, h2⟩ := k
  refine ⟨n + 1, r, w1, ?_, h2⟩
  rw [rz_u0 hc, hp]
  exact h1
theorem ev_ps (k : Nat) : ∀ {pc pc' : Nat} {L L' : rz_L} {st st' : List Value} {w w' : rz_W}, rz_ps M k pc L st w = some (pc', L', st', w') → rz_E xs xl M pc' L' st' w' kc ks post → rz_E xs xl M pc L st w kc ks post := by
  induction k with
  | zero => intro pc pc' L L' st st' w w' h k; cases h; exact k
  | succ k ih =>
    intro pc pc' L L' st st' w w' h kk
    rw [rz_ps] at h
    split at h
    · rename_i hc
      split at h
      · rename_i hp
        exact ev_p hc hp (ih h kk)
      · cases h
    · cases h
theorem ev_mono {post' : rz_R → rz_W → Prop} (h : ∀ r w', post r w' → post' r w') (k : rz_E xs xl M pc L st w kc ks post) : rz_E xs xl M pc L st w kc ks post' := by
  obtain ⟨n, r, w1, h1, h2⟩ := k
  exact ⟨n, r, w1, h1, h _ _ h2⟩
theorem ev_ret {ins : Instr} {len x y z : Nat} {v : Option Value} (hc : rz_code M pc = some (2, ins, len, x, y, z)) (hv : rz_end (rz_rt M) st = some v) (k : post (.inl v) w) : rz_E xs xl M pc L st w kc ks post := by
  refine ⟨1, .inl v, w, ?_, k⟩
  rw [rz_u2 hc, hv]
theorem ev_thr {ins : Instr} {len x y z : Nat} (hc : rz_code M pc = some (3, ins, len, x, y, z)) (h : kc + 1 ≤ rz_MC M ∧ ks + 6 ≤ rz_MS M) (k : post (.inr x) w) : rz_E xs xl M pc L [] w kc ks post := by
  refine ⟨1, .inr x, w, ?_, k⟩
  rw [rz_u3 hc, if_pos ⟨rfl, h.1, h.2⟩]
theorem ev_call {ins : Instr} {len x y z : Nat} {av rest : List Value} {post1 : rz_R → rz_W → Prop} (hc : rz_code M pc = some (1, ins, len, x, y, z)) (hav : st = av.reverse ++ rest) (hy : av.length = y) (hr : rz_recv w x ins av = true)
    (hs : ((rest.map fun v => v.category).sum ≤ 8) ∧ (av.all fun v => decide (v.category = 1)) = true) (hk : kc + rz_MC x ≤ rz_MC M ∧ ks + rz_MS x ≤ rz_MS M) (call : rz_C xs xl x av w post1)
    (kk : ∀ r w', post1 r w' → match r with
      | .inl v => rz_E xs xl M (pc + len) L (v.toList ++ rest) w' (kc + rz_MC x) (ks + rz_MS x) post
      | .inr k => ∃ hp i, rz_hnd M pc k = some (hp, i) ∧ rz_E xs xl M hp (L.set i none) [] w' (kc + rz_MC x) (ks + rz_MS x) post) : rz_E xs xl M pc L st w kc ks post := by
  obtain ⟨n1, r1, w1, h1, h2⟩ := call
  have k2 := kk r1 w1 h2
  have e1 : st.take y = av.reverse := by rw [hav, ← hy]; simp
  have e2 : st.drop y = rest := by rw [hav, ← hy]; simp
  have e3 : (st.take y).reverse = av := by rw [e1, List.reverse_reverse]
  have hcond : y ≤ st.length ∧ kc + rz_MC x ≤ rz_MC M ∧ ks + rz_MS x ≤ rz_MS M ∧ rz_recv w x ins (st.take y).reverse = true ∧ ((st.drop y).map fun v => v.category).sum ≤ 8 ∧ ((st.take y).all fun v => decide (v.category = 1)) = true := by
    refine ⟨by rw [hav, ← hy]; simp, hk.1, hk.2, by rw [e3]; exact hr, by rw [e2]; exact hs.1, ?_⟩
    rw [e1, List.all_reverse]
    exact hs.2
  cases r1 with
  | inl v =>
    obtain ⟨n2, r, w2, h3, h4⟩ := k2
    refine ⟨max n1 n2 + 1, r, w2, ?_, h4⟩
    rw [rz_u1 hc, if_pos hcond, e3, rz_mono h1 (Nat.le_max_left n1 n2), e2]
    exact rz_mono h3 (Nat.le_max_right n1 n2)
  | inr k =>
    obtain ⟨hp, i, hh, n2, r, w2, h3, h4⟩ := k2
    refine ⟨max n1 n2 + 1, r, w2, ?_, h4⟩
    rw [rz_u1 hc, if_pos hcond, e3, rz_mono h1 (Nat.le_max_left n1 n2)]
    dsimp only
    rw [hh]
    exact rz_mono h3 (Nat.le_max_right n1 n2)
theorem ev_if {cd : Jvm.ClassFile.Cond} {off : Int} {len x y z : Nat} {a : Int32} (hc : rz_code M pc = some (0, .ifCond cd off, len, x, y, z)) (kt : rz_cmp cd a 0 = true → rz_E xs xl M x L st w kc ks post) (kf : rz_cmp cd a 0 = false → rz_E xs xl M (pc + len) L st w kc ks post) : rz_E xs xl M pc L (.int a :: st) w kc ks post := by
  cases h : rz_cmp cd a 0 with
  | true => exact ev_p hc (show some (if rz_cmp cd a 0 = true then x else pc + len, L, st, w) = _ by rw [h]; rfl) (kt h)
  | false => exact ev_p hc (show some (if rz_cmp cd a 0 = true then x else pc + len, L, st, w) = _ by rw [h]; rfl) (kf h)
theorem ev_ic {cd : Jvm.ClassFile.Cond} {off : Int} {len x y z : Nat} {a b : Int32} (hc : rz_code M pc = some (0, .if_icmp cd off, len, x, y, z)) (kt : rz_cmp cd a b = true → rz_E xs xl M x L st w kc ks post) (kf : rz_cmp cd a b = false → rz_E xs xl M (pc + len) L st w kc ks post) : rz_E xs xl M pc L (.int b :: .int a :: st) w kc ks post := by
  cases h : rz_cmp cd a b with
  | true => exact ev_p hc (show some (if rz_cmp cd a b = true then x else pc + len, L, st, w) = _ by rw [h]; rfl) (kt h)
  | false => exact ev_p hc (show some (if rz_cmp cd a b = true then x else pc + len, L, st, w) = _ by rw [h]; rfl) (kf h)
theorem ev_get {idx len x y z i : Nat} {fs : List Value} {v : Value} (hc : rz_code M pc = some (0, .getfield idx, len, x, y, z)) (hw : w[i]? = some (.inr (x, fs))) (hv : fs[y]? = some v) (k : rz_E xs xl M (pc + len) L (v :: st) w kc ks post) : rz_E xs xl M pc L (.ref i :: st) w kc ks post := by
  refine ev_p hc ?_ k
  simp [rz_pure, hw, hv]
theorem ev_put {idx len x y z i : Nat} {fs : List Value} {v : Value} (hc : rz_code M pc = some (0, .putfield idx, len, x, y, z)) (hw : w[i]? = some (.inr (x, fs))) (hy : y < fs.length) (hv : rz_fit (rz_fty x y) v = true) (k : rz_E xs xl M (pc + len) L st (w.set i (.inr (x, fs.set y v))) kc ks post) : rz_E xs xl M pc L (v :: .ref i :: st) w kc ks post := by
  refine ev_p hc ?_ k
  simp [rz_pure, hw, hv, hy]
theorem ev_ald {len x y z i n : Nat} {f : Nat → Int32} {j : Int32} (hc : rz_code M pc = some (0, .iaload, len, x, y, z)) (hw : w[i]? = some (.inl (0, n, .inl f))) (hj : ¬ (j < 0 ∨ n ≤ j.toNatClampNeg)) (k : rz_E xs xl M (pc + len) L (.int (f j.toNatClampNeg) :: st) w kc ks post) : rz_E xs xl M pc L (.int j :: .ref i :: st) w kc ks post := by
  refine ev_p hc ?_ k
  simp only [rz_pure, hw]
  rw [if_pos ⟨trivial, hj⟩]
theorem ev_ast {len x y z i n : Nat} {f : Nat → Int32} {j v : Int32} (hc : rz_code M pc = some (0, .iastore, len, x, y, z)) (hw : w[i]? = some (.inl (0, n, .inl f))) (hj : ¬ (j < 0 ∨ n ≤ j.toNatClampNeg)) (k : rz_E xs xl M (pc + len) L st (w.set i (.inl (0, n, .inl (upd f j.toNatClampNeg v)))) kc ks post) : rz_E xs xl M pc L (.int v :: .int j :: .ref i :: st) w kc ks post := by
  refine ev_p hc ?_ k
  simp only [rz_pure, hw]
  rw [if_pos ⟨trivial, hj⟩]
end RZF
