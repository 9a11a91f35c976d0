/-! the world of the law: the class's cells at places 0 to 24, the reference's at 25 to 34, the law's own array at 35; v the numbers in fields, a the int arrays, g the long array -/
def rz_w (v : Nat → Int32) (a : Nat → Nat → Int32) (g : Nat → Int64) : rz_W := [
  .inr (0, [.ref 1, .ref 3, .ref 6, .ref 8, .ref 13]),
  .inr (1, [.ref 2, .int (v 0)]), .inl (0, 24, .inl (a 0)),
  .inr (2, [.ref 4, .ref 5, .int (v 1), .int (v 2), .int (v 3), .int (v 4)]), .inl (0, 8, .inl (a 1)), .inl (0, 8, .inl (a 2)),
  .inr (3, [.ref 7]), .inl (0, 25, .inl (a 3)),
  .inr (4, [.ref 9, .ref 11, .int (v 5)]), .inr (5, [.ref 10, .int (v 6)]), .inl (0, 3, .inl (a 4)), .inr (5, [.ref 12, .int (v 7)]), .inl (0, 3, .inl (a 5)),
  .inr (6, [.ref 14, .ref 16, .ref 21, .ref 23, .int (v 13), .int (v 14), .int (v 15)]),
  .inr (3, [.ref 15]), .inl (0, 25, .inl (a 6)),
  .inr (4, [.ref 17, .ref 19, .int (v 8)]), .inr (5, [.ref 18, .int (v 9)]), .inl (0, 3, .inl (a 7)), .inr (5, [.ref 20, .int (v 10)]), .inl (0, 3, .inl (a 8)),
  .inr (5, [.ref 22, .int (v 11)]), .inl (0, 3, .inl (a 9)), .inr (5, [.ref 24, .int (v 12)]), .inl (0, 3, .inl (a 10)),
  .inr (7, [.int (v 20), .int (v 21), .ref 26, .ref 27, .ref 28, .ref 29, .ref 30, .ref 31, .int (v 22), .int (v 23), .ref 32, .ref 33, .ref 34, .int (v 24), .int (v 25), .int (v 26)]),
  .inl (0, 25, .inl (a 20)), .inl (0, 25, .inl (a 21)), .inl (0, 25, .inl (a 22)), .inl (0, 25, .inl (a 23)), .inl (0, 12, .inl (a 24)), .inl (0, 12, .inl (a 25)), .inl (0, 25, .inl (a 26)), .inl (0, 4, .inl (a 27)), .inl (0, 4, .inl (a 28)),
  .inl (1, 1, .inr (.inl g))]
def rz_up (v : Nat → Int32) (k : Nat) (x : Int32) : Nat → Int32 := fun j => if j = k then x else v j
def rz_ua (a : Nat → Nat → Int32) (k : Nat) (f : Nat → Int32) : Nat → Nat → Int32 := fun j => if j = k then f else a j
section RZT
variable {xs : Nat → Int32} {xl : Nat} {v : Nat → Int32} {a : Nat → Nat → Int32} {g : Nat → Int64}
theorem t_length : rz_C xs xl 4 [.ref 1] (rz_w v a g) (fun r w' => r = .inl (some (.int (v 0))) ∧ w' = rz_w v a g) :=
  ev_ps 2 rfl (ev_ret rfl rfl ⟨rfl, rfl⟩)
theorem t_t {w : rz_W} (c : Int32) : rz_C xs xl 15 [.int c] w (fun r w' => r = .inl (some (.int (c &&& 31))) ∧ w' = w) :=
  ev_ps 3 rfl (ev_ret rfl rfl ⟨rfl, rfl⟩)
theorem t_op {w : rz_W} (c : Int32) : rz_C xs xl 16 [.int c] w (fun r w' => r = .inl (some (.int (c >>> 9))) ∧ w' = w) :=
  ev_ps 3 rfl (ev_ret rfl rfl ⟨rfl, rfl⟩)
theorem t_pack {w : rz_W} (o d s t : Int32) : rz_C xs xl 42 [.int o, .int d, .int s, .int t] w (fun r w' => r = .inl (some (.int (o <<< 9 ||| d <<< 7 ||| s <<< 5 ||| t))) ∧ w' = w) :=
  ev_ps 13 rfl (ev_ret rfl rfl ⟨rfl, rfl⟩)
theorem t_with {w : rz_W} (r n x : Int32) : rz_C xs xl 38 [.int r, .int n, .int x] w (fun q w' => (∃ u, q = .inl (some (.int u))) ∧ w' = w) := by
  refine ev_ps 1 rfl ?_
  refine ev_if (cd := .ne) rfl (fun _ => ?_) (fun _ => ?_)
  · exact ev_ps 17 rfl (ev_ret rfl rfl ⟨⟨_, rfl⟩, rfl⟩)
  · exact ev_ps 1 rfl (ev_ret rfl rfl ⟨⟨_, rfl⟩, rfl⟩)
theorem t_greatestT {w : rz_W} (o : Int32) : rz_C xs xl 52 [.int o] w (fun q w' => (∃ u, q = .inl (some (.int u))) ∧ w' = w) := by
  refine ev_ps 2 rfl (ev_ic (cd := .gt) rfl (fun _ => ?_) (fun _ => ?_))
  · refine ev_ps 2 rfl (ev_ic (cd := .gt) rfl (fun _ => ?_) (fun _ => ?_))
    · refine ev_ps 2 rfl (ev_ic (cd := .gt) rfl (fun _ => ?_) (fun _ => ?_))
      · refine ev_ps 2 rfl (ev_ic (cd := .ne) rfl (fun _ => ?_) (fun _ => ?_))
        · exact ev_ps 1 rfl (ev_ret rfl rfl ⟨⟨_, rfl⟩, rfl⟩)
        · exact ev_ps 2 rfl (ev_ret rfl rfl ⟨⟨_, rfl⟩, rfl⟩)
      · exact ev_ps 1 rfl (ev_ret rfl rfl ⟨⟨_, rfl⟩, rfl⟩)
    · exact ev_ps 1 rfl (ev_ret rfl rfl ⟨⟨_, rfl⟩, rfl⟩)
  · exact ev_ps 1 rfl (ev_ret rfl rfl ⟨⟨_, rfl⟩, rfl⟩)
theorem t_empty : rz_C xs xl 2 [.ref 1] (rz_w v a g) (fun r w' => r = .inl (some (.int (v 0))) ∧ w' = rz_w (rz_up v 0 0) a g) := by
  refine ev_ps 6 rfl ?_
  exact ev_ps 1 rfl (ev_ret rfl rfl ⟨rfl, rfl⟩)
end RZT
