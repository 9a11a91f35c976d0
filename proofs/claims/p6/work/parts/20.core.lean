/-! the abstract machine: values as the machine's own, but a reference is a place in the world (a list of cells) -/
abbrev rz_R : Type := Option Value ⊕ Nat
abbrev rz_L : Type := List (Option Value)
abbrev rz_W : Type := List va_E
def rz_code (M pc : Nat) : Option rz_I := (rz_T M).lookup pc
def rz_tg (pc : Nat) (off : Int) : Nat := ((pc : Int) + off).toNat
def rz_cmp (c : Jvm.ClassFile.Cond) (a b : Int32) : Bool := match c with
  | .eq => decide (a = b)
  | .ne => decide (¬ a = b)
  | .lt => decide (a < b)
  | .ge => decide (b ≤ a)
  | .gt => decide (b < a)
  | .le => decide (a ≤ b)
def rz_fit (ty : FieldType) (v : Value) : Bool := match ty, v with
  | .int, .int _ => true
  | .boolean, .int x => decide (x = 0 ∨ x = 1)
  | .object _, .ref _ => true
  | .array _, .ref _ => true
  | _, _ => false
def rz_pure (ins : Instr) (len x y pc : Nat) (L : rz_L) (st : List Value) (w : rz_W) : Option (Nat × rz_L × List Value × rz_W) := match ins with
  | .iconst i => some (pc + len, L, .int (Int32.ofInt i) :: st, w)
  | .bipush i => some (pc + len, L, .int (Int8.ofInt i).toInt32 :: st, w)
  | .sipush i => some (pc + len, L, .int (Int16.ofInt i).toInt32 :: st, w)
  | .ldc _ => some (pc + len, L, .int (Int32.ofNat x) :: st, w)
  | .lconst i => some (pc + len, L, .long (Int64.ofNat (i : Nat)) :: st, w)
  | .iload_n k => match L[(k : Nat)]? with
    | some (some (.int v)) => some (pc + len, L, .int v :: st, w)
    | _ => none
  | .iload k => match L[k]? with
    | some (some (.int v)) => some (pc + len, L, .int v :: st, w)
    | _ => none
  | .aload_n k => match L[(k : Nat)]? with
    | some (some (.ref v)) => some (pc + len, L, .ref v :: st, w)
    | _ => none
  | .aload k => match L[k]? with
    | some (some (.ref v)) => some (pc + len, L, .ref v :: st, w)
    | _ => none
  | .istore_n k => match st with
    | .int v :: r => if (k : Nat) < L.length then some (pc + len, L.set (k : Nat) (some (.int v)), r, w) else none
    | _ => none
  | .istore k => match st with
    | .int v :: r => if k < L.length then some (pc + len, L.set k (some (.int v)), r, w) else none
    | _ => none
  | .iinc k n => match L[k]? with
    | some (some (.int v)) => some (pc + len, L.set k (some (.int (v + Int32.ofInt n))), st, w)
    | _ => none
  | .iadd => match st with
    | .int b :: .int a :: r => some (pc + len, L, .int (a + b) :: r, w)
    | _ => none
  | .isub => match st with
    | .int b :: .int a :: r => some (pc + len, L, .int (a - b) :: r, w)
    | _ => none
  | .imul => match st with
    | .int b :: .int a :: r => some (pc + len, L, .int (a * b) :: r, w)
    | _ => none
  | .idiv => match st with
    | .int b :: .int a :: r => if b = 0 then none else some (pc + len, L, .int (a / b) :: r, w)
    | _ => none
  | .irem => match st with
    | .int b :: .int a :: r => if b = 0 then none else some (pc + len, L, .int (a - a / b * b) :: r, w)
    | _ => none
  | .iand => match st with
    | .int b :: .int a :: r => some (pc + len, L, .int (a &&& b) :: r, w)
    | _ => none
  | .ior => match st with
    | .int b :: .int a :: r => some (pc + len, L, .int (a ||| b) :: r, w)
    | _ => none
  | .ixor => match st with
    | .int b :: .int a :: r => some (pc + len, L, .int (a ^^^ b) :: r, w)
    | _ => none
  | .ishl => match st with
    | .int b :: .int a :: r => some (pc + len, L, .int (a <<< (b &&& 31)) :: r, w)
    | _ => none
  | .ishr => match st with
    | .int b :: .int a :: r => some (pc + len, L, .int (a >>> (b &&& 31)) :: r, w)
    | _ => none
  | .i2l => match st with
    | .int a :: r => some (pc + len, L, .long a.toInt64 :: r, w)
    | _ => none
  | .ladd => match st with
    | .long b :: .long a :: r => some (pc + len, L, .long (a + b) :: r, w)
    | _ => none
  | .lcmp => match st with
    | .long b :: .long a :: r => some (pc + len, L, .int (lg_cmp a b) :: r, w)
    | _ => none
  | .pop => match st with
    | .int _ :: r => some (pc + len, L, r, w)
    | _ => none
  | .dup => match st with
    | .int a :: r => some (pc + len, L, .int a :: .int a :: r, w)
    | .ref a :: r => some (pc + len, L, .ref a :: .ref a :: r, w)
    | _ => none
  | .dup2 => match st with
    | .int a :: .ref b :: r => some (pc + len, L, .int a :: .ref b :: .int a :: .ref b :: r, w)
    | _ => none
  | .goto _ => some (x, L, st, w)
  | .if_icmp c _ => match st with
    | .int b :: .int a :: r => some (if rz_cmp c a b = true then x else pc + len, L, r, w)
    | _ => none
  | .ifCond c _ => match st with
    | .int a :: r => some (if rz_cmp c a 0 = true then x else pc + len, L, r, w)
    | _ => none
  | .tableswitch d lo hi offs => match st with
    | .int v :: r => some (if v.toInt < lo ∨ hi < v.toInt then rz_tg pc d else rz_tg pc (offs.getD (v.toInt - lo).toNat d), L, r, w)
    | _ => none
  | .lookupswitch d ps => match st with
    | .int v :: r => some (rz_tg pc (Op.lookupswitch.offset ps.toList d v.toInt), L, r, w)
    | _ => none
  | .getfield _ => match st with
    | .ref i :: r => match w[i]? with
      | some (.inr (ci, fs)) => if ci = x then (match fs[y]? with
        | some v => some (pc + len, L, v :: r, w)
        | none => none) else none
      | _ => none
    | _ => none
  | .putfield _ => match st with
    | v :: .ref i :: r => match w[i]? with
      | some (.inr (ci, fs)) => if ci = x ∧ y < fs.length ∧ rz_fit (rz_fty x y) v = true then some (pc + len, L, r, w.set i (.inr (ci, fs.set y v))) else none
      | _ => none
    | _ => none
  | .iaload => match st with
    | .int j :: .ref i :: r => match w[i]? with
      | some (.inl (k, n, .inl f)) => if k = 0 ∧ ¬ (j < 0 ∨ n ≤ j.toNatClampNeg) then some (pc + len, L, .int (f j.toNatClampNeg) :: r, w) else none
      | _ => none
    | _ => none
  | .iastore => match st with
    | .int v :: .int j :: .ref i :: r => match w[i]? with
      | some (.inl (k, n, .inl f)) => if k = 0 ∧ ¬ (j < 0 ∨ n ≤ j.toNatClampNeg) then some (pc + len, L, r, w.set i (.inl (k, n, .inl (upd f j.toNatClampNeg v)))) else none
      | _ => none
    | _ => none
  | .lastore => match st with
    | .long v :: .int j :: .ref i :: r => match w[i]? with
      | some (.inl (k, n, .inr (.inl f))) => if k = 1 ∧ ¬ (j < 0 ∨ n ≤ j.toNatClampNeg) then some (pc + len, L, r, w.set i (.inl (k, n, .inr (.inl (vp_updL f j.toNatClampNeg v))))) else none
      | _ => none
    | _ => none
  | .laload => match st with
    | .int j :: .ref i :: r => match w[i]? with
      | some (.inl (k, n, .inr (.inl f))) => if k = 1 ∧ ¬ (j < 0 ∨ n ≤ j.toNatClampNeg) then some (pc + len, L, .long (f j.toNatClampNeg) :: r, w) else none
      | _ => none
    | _ => none
  | .arraylength => match st with
    | .ref i :: r => match w[i]? with
      | some (.inl (k, n, .inl _)) => if k = 0 then some (pc + len, L, .int (Int32.ofNat n) :: r, w) else none
      | _ => none
    | _ => none
  | _ => none
/-- what a method's end gives: the value on the stack, of its return type -/
def rz_end (rt : Option FieldType) (st : List Value) : Option (Option Value) := match rt, st with
  | none, [] => some none
  | some .int, [.int v] => some (some (.int v))
  | some .boolean, [.int v] => if v = 0 ∨ v = 1 then some (some (.int v)) else none
  | _, _ => none
def rz_ent (M : Nat) (args : List Value) : rz_L := args.map some ++ List.replicate (rz_mL M - args.length) none
def rz_recv (w : rz_W) (M : Nat) (ins : Instr) (args : List Value) : Bool := match ins with
  | .invokestatic _ => true
  | _ => match args with
    | .ref i :: _ => match w[i]? with
      | some (.inr (ci, _)) => decide (ci = rz_rc M)
      | _ => false
    | _ => false
/-- the handler that takes an exception of kind k thrown at pc: the place behind its store, and the local that it fills -/
def rz_go (hs : List (Nat × Nat × Nat × Nat)) (ks : List Nat) (pc k : Nat) : Option Nat := match hs, ks with
  | h :: hs, q :: ks => if h.1 ≤ pc ∧ pc < h.2.1 ∧ q = k then some h.2.2.1 else rz_go hs ks pc k
  | _, _ => none
def rz_hnd (M pc k : Nat) : Option (Nat × Nat) := match rz_go (rz_hd M) (rz_hk M) pc k with
  | none => none
  | some hp => match rz_code M hp with
    | some (7, .astore_n i, len, _, _, _) => some (hp + len, (i : Nat))
    | some (7, .astore i, len, _, _, _) => some (hp + len, i)
    | _ => none
def rz_cpy (f g : Nat → Int32) (n : Nat) : Nat → Int32 := fun k => if k < n then f k else g k
/-- n: the fuel; xs, xl: the script (read by the law alone); kc, ks: cells and slots that this frame has used -/
def rz_run (xs : Nat → Int32) (xl : Nat) : Nat → Nat → Nat → rz_L → List Value → rz_W → Nat → Nat → Option (rz_R × rz_W)
  | 0, _, _, _, _, _, _, _ => none
  | n + 1, M, pc, L, st, w, kc, ks => match rz_code M pc with
    | none => none
    | some (kind, ins, len, x, y, _) => match kind with
      | 0 => match rz_pure ins len x y pc L st w with
        | some (pc', L', st', w') => rz_run xs xl n M pc' L' st' w' kc ks
        | none => none
      | 1 => if y ≤ st.length ∧ kc + rz_MC x ≤ rz_MC M ∧ ks + rz_MS x ≤ rz_MS M ∧ rz_recv w x ins (st.take y).reverse = true ∧ ((st.drop y).map fun v => v.category).sum ≤ 8 ∧ ((st.take y).all fun v => decide (v.category = 1)) = true then
          match rz_run xs xl n x 0 (rz_ent x (st.take y).reverse) [] w 0 0 with
          | some (.inl v, w') => rz_run xs xl n M (pc + len) L (v.toList ++ st.drop y) w' (kc + rz_MC x) (ks + rz_MS x)
          | some (.inr k, w') => match rz_hnd M pc k with
            | some (hp, i) => rz_run xs xl n M hp (L.set i none) [] w' (kc + rz_MC x) (ks + rz_MS x)
            | none => none
          | none => none
        else none
      | 2 => match rz_end (rz_rt M) st with
        | some v => some (.inl v, w)
        | none => none
      | 3 => if st = [] ∧ kc + 1 ≤ rz_MC M ∧ ks + 6 ≤ rz_MS M then some (.inr x, w) else none
      | 4 => if M = 0 then (match ins, st with
          | .iaload, .int j :: .ref 999 :: r => if ¬ (j < 0 ∨ xl ≤ j.toNatClampNeg) then rz_run xs xl n M (pc + len) L (.int (xs j.toNatClampNeg) :: r) w kc ks else none
          | .arraylength, .ref 999 :: r => rz_run xs xl n M (pc + len) L (.int (Int32.ofNat xl) :: r) w kc ks
          | _, _ => none) else none
      | 5 => match st with
        | .int cn :: .int dp :: .ref d :: .int sp :: .ref s :: r => (match w[s]?, w[d]? with
          | some (.inl (k0, n0, .inl f)), some (.inl (k1, n1, .inl g)) => if k0 = 0 ∧ k1 = 0 ∧ s ≠ d ∧ sp = 0 ∧ dp = 0 ∧ cn = 8 ∧ n0 = 8 ∧ n1 = 8 ∧ r = [] then rz_run xs xl n M (pc + len) L [] (w.set d (.inl (k1, n1, .inl (va_cpy f g 0 0 8)))) kc ks else none
          | _, _ => none)
        | _ => none
      | 6 => match st with
        | .int b :: .int a :: r => if (r.map fun v => v.category).sum ≤ 8 then rz_run xs xl n M (pc + len) L (.int (if b < a then b else a) :: r) w kc ks else none
        | _ => none
      | _ => none
/-! what a program decides of the tables: each entry is the bytes', each link is a word -/
def rz_ln (ins : Instr) : Nat := match ins with
  | .bipush _ => 2
  | .ldc _ => 2
  | .iload _ => 2
  | .aload _ => 2
  | .istore _ => 2
  | .astore _ => 2
  | .sipush _ => 3
  | .iinc _ _ => 3
  | .goto _ => 3
  | .if_icmp _ _ => 3
  | .ifCond _ _ => 3
  | .getfield _ => 3
  | .putfield _ => 3
  | .invokestatic _ => 3
  | .invokevirtual _ => 3
  | .invokespecial _ => 3
  | .new _ => 3
  | _ => 1
def rz_wd (i : Nat) (w : Cond) : Bool := decide (lw_tbl[i]? = some w)
theorem rz_wd_in {i : Nat} {w : Cond} (h : rz_wd i w = true) : w ∈ lw_tbl := List.mem_of_getElem? (of_decide_eq_true h)
def rz_hint (M pc : Nat) : Nat := ((rz_HT M).lookup pc).getD 0
def rz_names : List String := ["java/lang/RuntimeException", "java/lang/Exception"]
def rz_okp (own : String) (pc : Nat) (ins : Instr) (x y h : Nat) : Bool := match ins with
  | .ldc idx => rz_wd h (.constant own idx (Int32.ofNat x))
  | .goto off => decide ((pc : Int) + off = (x : Int))
  | .if_icmp _ off => decide ((pc : Int) + off = (x : Int))
  | .ifCond _ off => decide ((pc : Int) + off = (x : Int))
  | .tableswitch d lo hi offs => decide ((offs.size : Int) = hi - lo + 1) && (d :: offs.toList).all (fun o => decide (0 ≤ (pc : Int) + o))
  | .lookupswitch d ps => (ps.toList.zip (ps.toList.drop 1)).all (fun (a, next) => a.1 < next.1) && decide (0 ≤ (pc : Int) + d) && ps.toList.all (fun o => decide (0 ≤ (pc : Int) + o.2))
  | .getfield idx => match rz_cl[x]? with
    | some (C, T, N) => decide (y < N) && decide ((T y).1 = C) && rz_wd h (.fieldLink own idx C (T y).2.1 (T y).2.2.1)
    | none => false
  | .putfield idx => match rz_cl[x]? with
    | some (C, T, N) => decide (y < N) && decide ((T y).1 = C) && rz_wd h (.fieldLink own idx C (T y).2.1 (T y).2.2.1) && decide ((T y).2.2.2 = false) && decide (parseFieldDescriptor (T y).2.2.1 = some (rz_fty x y))
    | none => false
  | _ => true
def rz_sy : MethodName := ⟨"java/lang/System", "arraycopy", "(Ljava/lang/Object;ILjava/lang/Object;II)V"⟩
def rz_ok (M pc : Nat) (q : rz_I) : Bool :=
  decide (decode (rz_by M) pc = .ok (q.2.1, q.2.2.1)) && (match q with
  | (0, ins, len, x, y, _) => (match ins with
    | .tableswitch _ _ _ _ => true
    | .lookupswitch _ _ => true
    | _ => decide (len = rz_ln ins)) && rz_okp (rz_y M).cls pc ins x y (rz_hint M pc)
  | (1, ins, len, x, y, _) => decide (len = 3) && decide (y = rz_na x) && decide (0 < x) && decide (rz_fr x + 1 ≤ rz_fr M) && decide (8 + (rz_mL x + 11) + rz_lo x ≤ rz_lo M) && (match ins with
    | .invokestatic idx => rz_st x && rz_wd (rz_hint M pc) (.methodLink (rz_y M).cls idx (rz_y x))
    | .invokevirtual idx => !(rz_st x) && rz_wd (rz_hint M pc) (.methodLink (rz_y M).cls idx (rz_y x))
    | _ => false)
  | (2, ins, _, _, _, _) => (match rz_rt M with
    | none => decide (ins = .return_)
    | some .int => decide (ins = .ireturn)
    | some .boolean => decide (ins = .ireturn)
    | _ => false) && decide (q.2.2.1 = 1)
  | (3, ins, _, x, y, z) => (match ins with
    | .new idx => decide (x < 4) && rz_wd (rz_hint M pc) (.classLink (rz_y M).cls idx (rz_xn x)) && decide ((rz_y M).cls = "RowImprover") && decide (y = (match x with | 0 => 54 | 1 => 65 | 2 => 82 | _ => 146)) && decide (decode (rz_by M) (pc + 3) = .ok (.dup, 1)) && decide (decode (rz_by M) (pc + 4) = .ok (.ldc z, 2)) && decide (decode (rz_by M) (pc + 6) = .ok (.invokespecial y, 3)) && decide (decode (rz_by M) (pc + 9) = .ok (.athrow, 1)) && lw_tbl.any (fun w => match w with
        | .stringRef o k _ => o == "RowImprover" && k == z
        | _ => false) && decide (rz_hd M = []) && decide (6 ≤ rz_fr M) && decide (90 ≤ rz_lo M)
    | _ => false)
  | (4, ins, len, _, _, _) => decide (len = rz_ln ins) && (match ins with
    | .iaload => true
    | .arraylength => true
    | _ => false)
  | (5, ins, len, _, _, _) => decide (len = 3) && (match ins with
    | .invokestatic idx => rz_wd (rz_hint M pc) (.methodLink (rz_y M).cls idx rz_sy)
    | _ => false) && decide (1 ≤ rz_fr M) && decide (40 ≤ rz_lo M)
  | (6, ins, len, _, _, _) => decide (len = 3) && (match ins with
    | .invokestatic idx => rz_wd (rz_hint M pc) (.methodLink (rz_y M).cls idx Lib.Math.min.name)
    | _ => false) && decide (1 ≤ rz_fr M) && decide (21 ≤ rz_lo M)
  | (7, ins, len, _, _, _) => decide (len = rz_ln ins)
  | _ => false)
