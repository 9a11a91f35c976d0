/-! what a program decides of the tables: each entry is the bytes', each link is a word -/
def rz_ln (ins : Instr) : Nat := match ins with
  | .bipush _ => 2
  | .ldc _ => 2
  | .iload _ => 2
  | .aload _ => 2
  | .istore _ => 2
  | .astore _ => 2
  | .sipush _ => 3
  | .iinc _ _ => 3
  | .goto _ => 3
  | .if_icmp _ _ => 3
  | .ifCond _ _ => 3
  | .getfield _ => 3
  | .putfield _ => 3
  | .invokestatic _ => 3
  | .invokevirtual _ => 3
  | .invokespecial _ => 3
  | .new _ => 3
  | _ => 1
def rz_wd (i : Nat) (w : Cond) : Bool := decide (lw_tbl[i]? = some w)
theorem rz_wd_in {i : Nat} {w : Cond} (h : rz_wd i w = true) : w ∈ lw_tbl := List.mem_of_getElem? (of_decide_eq_true h)
def rz_hint (M pc : Nat) : Nat := ((rz_HT M).lookup pc).getD 0
def rz_names : List String := ["java/lang/RuntimeException", "java/lang/Exception"]
def rz_okp (own : String) (pc : Nat) (ins : Instr) (x y h : Nat) : Bool := match ins with
  | .ldc idx => rz_wd h (.constant own idx (Int32.ofNat x))
  | .goto off => decide ((pc : Int) + off = (x : Int))
  | .if_icmp _ off => decide ((pc : Int) + off = (x : Int))
  | .ifCond _ off => decide ((pc : Int) + off = (x : Int))
  | .tableswitch d lo hi offs => decide ((offs.size : Int) = hi - lo + 1) && (d :: offs.toList).all (fun o => decide (0 ≤ (pc : Int) + o))
  | .lookupswitch d ps => (ps.toList.zip (ps.toList.drop 1)).all (fun (a, next) => a.1 < next.1) && decide (0 ≤ (pc : Int) + d) && ps.toList.all (fun o => decide (0 ≤ (pc : Int) + o.2))
  | .getfield idx => match rz_cl[x]? with
    | some (C, T, N) => decide (y < N) && decide ((T y).1 = C) && rz_wd h (.fieldLink own idx C (T y).2.1 (T y).2.2.1)
    | none => false
  | .putfield idx => match rz_cl[x]? with
    | some (C, T, N) => decide (y < N) && decide ((T y).1 = C) && rz_wd h (.fieldLink own idx C (T y).2.1 (T y).2.2.1) && decide ((T y).2.2.2 = false) && decide (parseFieldDescriptor (T y).2.2.1 = some (rz_fty x y))
    | none => false
  | _ => true
def rz_sy : MethodName := ⟨"java/lang/System", "arraycopy", "(Ljava/lang/Object;ILjava/lang/Object;II)V"⟩
def rz_ok (M pc : Nat) (q : rz_I) : Bool :=
  decide (decode (rz_by M) pc = .ok (q.2.1, q.2.2.1)) && (match q with
  | (0, ins, len, x, y, _) => (match ins with
    | .tableswitch _ _ _ _ => true
    | .lookupswitch _ _ => true
    | _ => decide (len = rz_ln ins)) && rz_okp (rz_y M).cls pc ins x y (rz_hint M pc)
  | (1, ins, len, x, y, _) => decide (len = 3) && decide (y = rz_na x) && decide (0 < x) && decide (rz_fr x + 1 ≤ rz_fr M) && decide (8 + (rz_mL x + 11) + rz_lo x ≤ rz_lo M) && (match ins with
    | .invokestatic idx => rz_st x && rz_wd (rz_hint M pc) (.methodLink (rz_y M).cls idx (rz_y x))
    | .invokevirtual idx => !(rz_st x) && rz_wd (rz_hint M pc) (.methodLink (rz_y M).cls idx (rz_y x))
    | _ => false)
  | (2, ins, _, _, _, _) => (match rz_rt M with
    | none => decide (ins = .return_)
    | some .int => decide (ins = .ireturn)
    | some .boolean => decide (ins = .ireturn)
    | _ => false) && decide (q.2.2.1 = 1)
  | (3, ins, _, x, y, z) => (match ins with
    | .new idx => decide (x < 4) && rz_wd (rz_hint M pc) (.classLink (rz_y M).cls idx (rz_xn x)) && decide ((rz_y M).cls = "RowImprover") && decide (y = (match x with | 0 => 54 | 1 => 65 | 2 => 82 | _ => 146)) && decide (decode (rz_by M) (pc + 3) = .ok (.dup, 1)) && decide (decode (rz_by M) (pc + 4) = .ok (.ldc z, 2)) && decide (decode (rz_by M) (pc + 6) = .ok (.invokespecial y, 3)) && decide (decode (rz_by M) (pc + 9) = .ok (.athrow, 1)) && lw_tbl.any (fun w => match w with
        | .stringRef o k _ => o == "RowImprover" && k == z
        | _ => false) && decide (rz_hd M = []) && decide (6 ≤ rz_fr M) && decide (90 ≤ rz_lo M)
    | _ => false)
  | (4, ins, len, _, _, _) => decide (len = rz_ln ins) && (match ins with
    | .iaload => true
    | .arraylength => true
    | _ => false)
  | (5, ins, len, _, _, _) => decide (len = 3) && (match ins with
    | .invokestatic idx => rz_wd (rz_hint M pc) (.methodLink (rz_y M).cls idx rz_sy)
    | _ => false) && decide (1 ≤ rz_fr M) && decide (40 ≤ rz_lo M)
  | (6, ins, len, _, _, _) => decide (len = 3) && (match ins with
    | .invokestatic idx => rz_wd (rz_hint M pc) (.methodLink (rz_y M).cls idx Lib.Math.min.name)
    | _ => false) && decide (1 ≤ rz_fr M) && decide (21 ≤ rz_lo M)
  | (7, ins, len, _, _, _) => decide (len = rz_ln ins)
  | _ => false)
