def rz_mok (M : Nat) : Bool :=
  (match rz_hd M with
    | [] => rz_wd (rz_MH M).1 (.code (rz_y M) (rz_by M) (rz_mL M) (rz_rt M))
    | h :: hs => rz_wd (rz_MH M).1 (.codeWith (rz_y M) (rz_by M) (rz_mL M) (rz_rt M) (h :: hs))) &&
  (if rz_st M = true then rz_wd (rz_MH M).2.1 (.static (rz_y M)) && decide ((parseMethodDescriptor (rz_y M).desc).map (fun d => d.parameters.length) = some (rz_na M)) else rz_wd (rz_MH M).2.1 (.instanceMethod (rz_y M)) && rz_wd (rz_MH M).2.2.1 (.selects (rz_y M).cls (rz_y M) (rz_y M)) && decide ((rz_cl[rz_rc M]?).map (fun q => q.1) = some (rz_y M).cls) && decide ((parseMethodDescriptor (rz_y M).desc).map (fun d => d.parameters.length + 1) = some (rz_na M))) &&
  rz_wd (rz_MH M).2.2.2 (.initialized (rz_y M).cls) && decide ((rz_y M).cls ≠ "java/lang/invoke/MethodHandle") && decide ((rz_y M).cls ≠ "java/lang/invoke/VarHandle") && Jvm.plainName (rz_y M).cls && decide (rz_na M ≤ rz_mL M) && decide ((rz_hd M).length = (rz_hk M).length)
set_option maxRecDepth 100000 in
theorem rz_m1 : rz_mok 1 = true := by decide +kernel
set_option maxRecDepth 100000 in
theorem rz_m2 : rz_mok 2 = true := by decide +kernel
set_option maxRecDepth 100000 in
theorem rz_m3 : rz_mok 3 = true := by decide +kernel
set_option maxRecDepth 100000 in
theorem rz_m4 : rz_mok 4 = true := by decide +kernel
set_option maxRecDepth 100000 in
theorem rz_m5 : rz_mok 5 = true := by decide +kernel
set_option maxRecDepth 100000 in
theorem rz_m6 : rz_mok 6 = true := by decide +kernel
set_option maxRecDepth 100000 in
theorem rz_m7 : rz_mok 7 = true := by decide +kernel
set_option maxRecDepth 100000 in
theorem rz_m8 : rz_mok 8 = true := by decide +kernel
set_option maxRecDepth 100000 in
theorem rz_m9 : rz_mok 9 = true := by decide +kernel
set_option maxRecDepth 100000 in
theorem rz_m10 : rz_mok 10 = true := by decide +kernel
set_option maxRecDepth 100000 in
theorem rz_m11 : rz_mok 11 = true := by decide +kernel
set_option maxRecDepth 100000 in
theorem rz_m12 : rz_mok 12 = true := by decide +kernel
set_option maxRecDepth 100000 in
theorem rz_m13 : rz_mok 13 = true := by decide +kernel
set_option maxRecDepth 100000 in
theorem rz_m14 : rz_mok 14 = true := by decide +kernel
set_option maxRecDepth 100000 in
theorem rz_m15 : rz_mok 15 = true := by decide +kernel
set_option maxRecDepth 100000 in
theorem rz_m16 : rz_mok 16 = true := by decide +kernel
set_option maxRecDepth 100000 in
theorem rz_m17 : rz_mok 17 = true := by decide +kernel
set_option maxRecDepth 100000 in
theorem rz_m18 : rz_mok 18 = true := by decide +kernel
set_option maxRecDepth 100000 in
theorem rz_m19 : rz_mok 19 = true := by decide +kernel
set_option maxRecDepth 100000 in
theorem rz_m20 : rz_mok 20 = true := by decide +kernel
set_option maxRecDepth 100000 in
theorem rz_m21 : rz_mok 21 = true := by decide +kernel
set_option maxRecDepth 100000 in
theorem rz_m22 : rz_mok 22 = true := by decide +kernel
set_option maxRecDepth 100000 in
theorem rz_m23 : rz_mok 23 = true := by decide +kernel
set_option maxRecDepth 100000 in
theorem rz_m24 : rz_mok 24 = true := by decide +kernel
set_option maxRecDepth 100000 in
theorem rz_m25 : rz_mok 25 = true := by decide +kernel
set_option maxRecDepth 100000 in
theorem rz_m26 : rz_mok 26 = true := by decide +kernel
set_option maxRecDepth 100000 in
theorem rz_m27 : rz_mok 27 = true := by decide +kernel
set_option maxRecDepth 100000 in
theorem rz_m28 : rz_mok 28 = true := by decide +kernel
set_option maxRecDepth 100000 in
theorem rz_m29 : rz_mok 29 = true := by decide +kernel
set_option maxRecDepth 100000 in
theorem rz_m30 : rz_mok 30 = true := by decide +kernel
set_option maxRecDepth 100000 in
theorem rz_m31 : rz_mok 31 = true := by decide +kernel
set_option maxRecDepth 100000 in
theorem rz_m32 : rz_mok 32 = true := by decide +kernel
set_option maxRecDepth 100000 in
theorem rz_m33 : rz_mok 33 = true := by decide +kernel
set_option maxRecDepth 100000 in
theorem rz_m34 : rz_mok 34 = true := by decide +kernel
set_option maxRecDepth 100000 in
theorem rz_m35 : rz_mok 35 = true := by decide +kernel
set_option maxRecDepth 100000 in
theorem rz_m36 : rz_mok 36 = true := by decide +kernel
set_option maxRecDepth 100000 in
theorem rz_m37 : rz_mok 37 = true := by decide +kernel
set_option maxRecDepth 100000 in
theorem rz_m38 : rz_mok 38 = true := by decide +kernel
set_option maxRecDepth 100000 in
theorem rz_m39 : rz_mok 39 = true := by decide +kernel
set_option maxRecDepth 100000 in
theorem rz_m40 : rz_mok 40 = true := by decide +kernel
set_option maxRecDepth 100000 in
theorem rz_m41 : rz_mok 41 = true := by decide +kernel
set_option maxRecDepth 100000 in
theorem rz_m42 : rz_mok 42 = true := by decide +kernel
set_option maxRecDepth 100000 in
theorem rz_m43 : rz_mok 43 = true := by decide +kernel
set_option maxRecDepth 100000 in
theorem rz_m44 : rz_mok 44 = true := by decide +kernel
set_option maxRecDepth 100000 in
theorem rz_m45 : rz_mok 45 = true := by decide +kernel
set_option maxRecDepth 100000 in
theorem rz_m46 : rz_mok 46 = true := by decide +kernel
set_option maxRecDepth 100000 in
theorem rz_m47 : rz_mok 47 = true := by decide +kernel
set_option maxRecDepth 100000 in
theorem rz_m48 : rz_mok 48 = true := by decide +kernel
set_option maxRecDepth 100000 in
theorem rz_m49 : rz_mok 49 = true := by decide +kernel
set_option maxRecDepth 100000 in
theorem rz_m50 : rz_mok 50 = true := by decide +kernel
set_option maxRecDepth 100000 in
theorem rz_m51 : rz_mok 51 = true := by decide +kernel
set_option maxRecDepth 100000 in
theorem rz_m52 : rz_mok 52 = true := by decide +kernel
set_option maxRecDepth 100000 in
theorem rz_m53 : rz_mok 53 = true := by decide +kernel
set_option maxRecDepth 100000 in
theorem rz_m54 : rz_mok 54 = true := by decide +kernel
set_option maxRecDepth 100000 in
theorem rz_m55 : rz_mok 55 = true := by decide +kernel
set_option maxRecDepth 100000 in
theorem rz_m56 : rz_mok 56 = true := by decide +kernel
set_option maxRecDepth 100000 in
theorem rz_m57 : rz_mok 57 = true := by decide +kernel
set_option maxRecDepth 100000 in
theorem rz_m58 : rz_mok 58 = true := by decide +kernel
set_option maxRecDepth 100000 in
theorem rz_m59 : rz_mok 59 = true := by decide +kernel
set_option maxRecDepth 100000 in
theorem rz_m60 : rz_mok 60 = true := by decide +kernel
set_option maxRecDepth 100000 in
theorem rz_m61 : rz_mok 61 = true := by decide +kernel
set_option maxRecDepth 100000 in
theorem rz_m62 : rz_mok 62 = true := by decide +kernel
set_option maxRecDepth 100000 in
theorem rz_m63 : rz_mok 63 = true := by decide +kernel
set_option maxRecDepth 100000 in
theorem rz_m64 : rz_mok 64 = true := by decide +kernel
set_option maxRecDepth 100000 in
theorem rz_m65 : rz_mok 65 = true := by decide +kernel
set_option maxRecDepth 100000 in
theorem rz_m66 : rz_mok 66 = true := by decide +kernel
set_option maxRecDepth 100000 in
theorem rz_m67 : rz_mok 67 = true := by decide +kernel
set_option maxRecDepth 100000 in
theorem rz_m68 : rz_mok 68 = true := by decide +kernel
set_option maxRecDepth 100000 in
theorem rz_m69 : rz_mok 69 = true := by decide +kernel
set_option maxRecDepth 100000 in
theorem rz_m70 : rz_mok 70 = true := by decide +kernel
set_option maxRecDepth 100000 in
theorem rz_m71 : rz_mok 71 = true := by decide +kernel
set_option maxRecDepth 100000 in
theorem rz_m72 : rz_mok 72 = true := by decide +kernel
set_option maxRecDepth 100000 in
theorem rz_m73 : rz_mok 73 = true := by decide +kernel
set_option maxRecDepth 100000 in
theorem rz_m74 : rz_mok 74 = true := by decide +kernel
set_option maxRecDepth 100000 in
theorem rz_m75 : rz_mok 75 = true := by decide +kernel
set_option maxRecDepth 100000 in
theorem rz_m76 : rz_mok 76 = true := by decide +kernel
set_option maxRecDepth 100000 in
theorem rz_m77 : rz_mok 77 = true := by decide +kernel
set_option maxRecDepth 100000 in
theorem rz_m78 : rz_mok 78 = true := by decide +kernel
set_option maxRecDepth 100000 in
theorem rz_m79 : rz_mok 79 = true := by decide +kernel
set_option maxRecDepth 100000 in
theorem rz_m80 : rz_mok 80 = true := by decide +kernel
set_option maxRecDepth 100000 in
theorem rz_m81 : rz_mok 81 = true := by decide +kernel
set_option maxRecDepth 100000 in
theorem rz_m82 : rz_mok 82 = true := by decide +kernel
set_option maxRecDepth 100000 in
theorem rz_m83 : rz_mok 83 = true := by decide +kernel
set_option maxRecDepth 100000 in
theorem rz_m84 : rz_mok 84 = true := by decide +kernel
set_option maxRecDepth 100000 in
theorem rz_m85 : rz_mok 85 = true := by decide +kernel
set_option maxRecDepth 100000 in
theorem rz_m86 : rz_mok 86 = true := by decide +kernel
set_option maxRecDepth 100000 in
theorem rz_m87 : rz_mok 87 = true := by decide +kernel
set_option maxRecDepth 100000 in
theorem rz_m88 : rz_mok 88 = true := by decide +kernel
set_option maxRecDepth 100000 in
theorem rz_m89 : rz_mok 89 = true := by decide +kernel
set_option maxRecDepth 100000 in
theorem rz_m90 : rz_mok 90 = true := by decide +kernel
set_option maxRecDepth 100000 in
theorem rz_m91 : rz_mok 91 = true := by decide +kernel
set_option maxRecDepth 100000 in
theorem rz_m92 : rz_mok 92 = true := by decide +kernel
set_option maxRecDepth 100000 in
theorem rz_m93 : rz_mok 93 = true := by decide +kernel
set_option maxRecDepth 100000 in
theorem rz_m94 : rz_mok 94 = true := by decide +kernel
set_option maxRecDepth 100000 in
theorem rz_m95 : rz_mok 95 = true := by decide +kernel
set_option maxRecDepth 100000 in
theorem rz_m96 : rz_mok 96 = true := by decide +kernel
set_option maxRecDepth 100000 in
theorem rz_m97 : rz_mok 97 = true := by decide +kernel
set_option maxRecDepth 100000 in
theorem rz_m98 : rz_mok 98 = true := by decide +kernel
set_option maxRecDepth 100000 in
theorem rz_m99 : rz_mok 99 = true := by decide +kernel
set_option maxRecDepth 100000 in
theorem rz_m100 : rz_mok 100 = true := by decide +kernel
set_option maxRecDepth 100000 in
theorem rz_m101 : rz_mok 101 = true := by decide +kernel
set_option maxRecDepth 100000 in
theorem rz_m102 : rz_mok 102 = true := by decide +kernel
set_option maxRecDepth 100000 in
theorem rz_m103 : rz_mok 103 = true := by decide +kernel
set_option maxRecDepth 100000 in
theorem rz_m104 : rz_mok 104 = true := by decide +kernel
set_option maxRecDepth 100000 in
theorem rz_m105 : rz_mok 105 = true := by decide +kernel
set_option maxRecDepth 100000 in
theorem rz_m106 : rz_mok 106 = true := by decide +kernel
set_option maxRecDepth 100000 in
theorem rz_m107 : rz_mok 107 = true := by decide +kernel
set_option maxRecDepth 100000 in
theorem rz_m108 : rz_mok 108 = true := by decide +kernel
set_option maxRecDepth 100000 in
theorem rz_m109 : rz_mok 109 = true := by decide +kernel
set_option maxRecDepth 100000 in
theorem rz_m110 : rz_mok 110 = true := by decide +kernel
set_option maxRecDepth 100000 in
theorem rz_m111 : rz_mok 111 = true := by decide +kernel
theorem rz_mok_of {M : Nat} (h0 : 0 < M) (h1 : M < 112) : rz_mok M = true := match M, h0, h1 with
  | 0, h0, _ => absurd h0 (by decide)
  | 1, _, _ => rz_m1
  | 2, _, _ => rz_m2
  | 3, _, _ => rz_m3
  | 4, _, _ => rz_m4
  | 5, _, _ => rz_m5
  | 6, _, _ => rz_m6
  | 7, _, _ => rz_m7
  | 8, _, _ => rz_m8
  | 9, _, _ => rz_m9
  | 10, _, _ => rz_m10
  | 11, _, _ => rz_m11
  | 12, _, _ => rz_m12
  | 13, _, _ => rz_m13
  | 14, _, _ => rz_m14
  | 15, _, _ => rz_m15
  | 16, _, _ => rz_m16
  | 17, _, _ => rz_m17
  | 18, _, _ => rz_m18
  | 19, _, _ => rz_m19
  | 20, _, _ => rz_m20
  | 21, _, _ => rz_m21
  | 22, _, _ => rz_m22
  | 23, _, _ => rz_m23
  | 24, _, _ => rz_m24
  | 25, _, _ => rz_m25
  | 26, _, _ => rz_m26
  | 27, _, _ => rz_m27
  | 28, _, _ => rz_m28
  | 29, _, _ => rz_m29
  | 30, _, _ => rz_m30
  | 31, _, _ => rz_m31
  | 32, _, _ => rz_m32
  | 33, _, _ => rz_m33
  | 34, _, _ => rz_m34
  | 35, _, _ => rz_m35
  | 36, _, _ => rz_m36
  | 37, _, _ => rz_m37
  | 38, _, _ => rz_m38
  | 39, _, _ => rz_m39
  | 40, _, _ => rz_m40
  | 41, _, _ => rz_m41
  | 42, _, _ => rz_m42
  | 43, _, _ => rz_m43
  | 44, _, _ => rz_m44
  | 45, _, _ => rz_m45
  | 46, _, _ => rz_m46
  | 47, _, _ => rz_m47
  | 48, _, _ => rz_m48
  | 49, _, _ => rz_m49
  | 50, _, _ => rz_m50
  | 51, _, _ => rz_m51
  | 52, _, _ => rz_m52
  | 53, _, _ => rz_m53
  | 54, _, _ => rz_m54
  | 55, _, _ => rz_m55
  | 56, _, _ => rz_m56
  | 57, _, _ => rz_m57
  | 58, _, _ => rz_m58
  | 59, _, _ => rz_m59
  | 60, _, _ => rz_m60
  | 61, _, _ => rz_m61
  | 62, _, _ => rz_m62
  | 63, _, _ => rz_m63
  | 64, _, _ => rz_m64
  | 65, _, _ => rz_m65
  | 66, _, _ => rz_m66
  | 67, _, _ => rz_m67
  | 68, _, _ => rz_m68
  | 69, _, _ => rz_m69
  | 70, _, _ => rz_m70
  | 71, _, _ => rz_m71
  | 72, _, _ => rz_m72
  | 73, _, _ => rz_m73
  | 74, _, _ => rz_m74
  | 75, _, _ => rz_m75
  | 76, _, _ => rz_m76
  | 77, _, _ => rz_m77
  | 78, _, _ => rz_m78
  | 79, _, _ => rz_m79
  | 80, _, _ => rz_m80
  | 81, _, _ => rz_m81
  | 82, _, _ => rz_m82
  | 83, _, _ => rz_m83
  | 84, _, _ => rz_m84
  | 85, _, _ => rz_m85
  | 86, _, _ => rz_m86
  | 87, _, _ => rz_m87
  | 88, _, _ => rz_m88
  | 89, _, _ => rz_m89
  | 90, _, _ => rz_m90
  | 91, _, _ => rz_m91
  | 92, _, _ => rz_m92
  | 93, _, _ => rz_m93
  | 94, _, _ => rz_m94
  | 95, _, _ => rz_m95
  | 96, _, _ => rz_m96
  | 97, _, _ => rz_m97
  | 98, _, _ => rz_m98
  | 99, _, _ => rz_m99
  | 100, _, _ => rz_m100
  | 101, _, _ => rz_m101
  | 102, _, _ => rz_m102
  | 103, _, _ => rz_m103
  | 104, _, _ => rz_m104
  | 105, _, _ => rz_m105
  | 106, _, _ => rz_m106
  | 107, _, _ => rz_m107
  | 108, _, _ => rz_m108
  | 109, _, _ => rz_m109
  | 110, _, _ => rz_m110
  | 111, _, _ => rz_m111
  | _ + 112, _, h1 => absurd h1 (by omega)
def rz_tw : List Cond := lw_tbl.filter goodWord
theorem rz_use {w : Cond} (h : w ∈ lw_tbl) (hg : goodWord w = true) : w ∈ rz_tw := List.mem_filter.mpr ⟨h, hg⟩
set_option maxRecDepth 100000 in
theorem rz_clw : rz_cl.all (fun q => (u_ws q.1 q.2.1 q.2.2).all (fun w => decide (w ∈ lw_tbl) && goodWord w)) = true := by decide +kernel
theorem rz_clw_of {ci : Nat} {C : String} {T : u_T} {N : Nat} (h : rz_cl[ci]? = some (C, T, N)) : ∀ w ∈ u_ws C T N, w ∈ rz_tw := fun w hw => by
  have h1 := List.all_eq_true.mp (List.all_eq_true.mp rz_clw (C, T, N) (List.mem_of_getElem? h)) w hw
  simp only [Bool.and_eq_true, decide_eq_true_eq] at h1
  exact rz_use h1.1 h1.2
theorem rz_cty : (List.range 8).all (fun ci => match rz_cl[ci]? with
  | some (_, T, N) => (List.range N).all (fun k => decide (parseFieldDescriptor (T k).2.2.1 = some (rz_fty ci k)))
  | none => false) = true := by decide +kernel
theorem rz_cty_of {ci : Nat} {C : String} {T : u_T} {N : Nat} (h : rz_cl[ci]? = some (C, T, N)) : ∀ k, k < N → parseFieldDescriptor (T k).2.2.1 = some (rz_fty ci k) := fun k hk => by
  have hlt : ci < 8 := (List.getElem?_eq_some_iff.mp h).1
  have h1 := List.all_eq_true.mp rz_cty ci (List.mem_range.mpr hlt)
  rw [h] at h1
  exact of_decide_eq_true (List.all_eq_true.mp h1 k (List.mem_range.mpr hk))
theorem rz_cnm : rz_cl.all (fun q => (List.range q.2.2).all (fun a => (List.range q.2.2).all (fun b => decide (a ≠ b → (q.2.1 a).2.1 ≠ (q.2.1 b).2.1)))) = true := by decide +kernel
theorem rz_cnm_of {ci : Nat} {C : String} {T : u_T} {N : Nat} (h : rz_cl[ci]? = some (C, T, N)) : ∀ a, a < N → ∀ b, b < N → a ≠ b → (T a).2.1 ≠ (T b).2.1 := fun a ha b hb =>
  of_decide_eq_true (List.all_eq_true.mp (List.all_eq_true.mp (List.all_eq_true.mp rz_cnm (C, T, N) (List.mem_of_getElem? h)) a (List.mem_range.mpr ha)) b (List.mem_range.mpr hb))
theorem rz_allT (M : Nat) : (rz_T M).all (fun e => rz_ok M e.1 e.2) = true := match M with
  | 0 => rz_c0
  | 1 => rz_c1
  | 2 => rz_c2
  | 3 => rz_c3
  | 4 => rz_c4
  | 5 => rz_c5
  | 6 => rz_c6
  | 7 => rz_c7
  | 8 => rz_c8
  | 9 => rz_c9
  | 10 => rz_c10
  | 11 => rz_c11
  | 12 => rz_c12
  | 13 => rz_c13
  | 14 => rz_c14
  | 15 => rz_c15
  | 16 => rz_c16
  | 17 => rz_c17
  | 18 => rz_c18
  | 19 => rz_c19
  | 20 => rz_c20
  | 21 => rz_c21
  | 22 => rz_c22
  | 23 => rz_c23
  | 24 => rz_c24
  | 25 => rz_c25
  | 26 => rz_c26
  | 27 => rz_c27
  | 28 => rz_c28
  | 29 => rz_c29
  | 30 => rz_c30
  | 31 => rz_c31
  | 32 => rz_c32
  | 33 => rz_c33
  | 34 => rz_c34
  | 35 => rz_c35
  | 36 => rz_c36
  | 37 => rz_c37
  | 38 => rz_c38
  | 39 => rz_c39
  | 40 => rz_c40
  | 41 => rz_c41
  | 42 => rz_c42
  | 43 => rz_c43
  | 44 => rz_c44
  | 45 => rz_c45
  | 46 => rz_c46
  | 47 => rz_c47
  | 48 => rz_c48
  | 49 => rz_c49
  | 50 => rz_c50
  | 51 => rz_c51
  | 52 => rz_c52
  | 53 => rz_c53
  | 54 => rz_c54
  | 55 => rz_c55
  | 56 => rz_c56
  | 57 => rz_c57
  | 58 => rz_c58
  | 59 => rz_c59
  | 60 => rz_c60
  | 61 => rz_c61
  | 62 => rz_c62
  | 63 => rz_c63
  | 64 => rz_c64
  | 65 => rz_c65
  | 66 => rz_c66
  | 67 => rz_c67
  | 68 => rz_c68
  | 69 => rz_c69
  | 70 => rz_c70
  | 71 => rz_c71
  | 72 => rz_c72
  | 73 => rz_c73
  | 74 => rz_c74
  | 75 => rz_c75
  | 76 => rz_c76
  | 77 => rz_c77
  | 78 => rz_c78
  | 79 => rz_c79
  | 80 => rz_c80
  | 81 => rz_c81
  | 82 => rz_c82
  | 83 => rz_c83
  | 84 => rz_c84
  | 85 => rz_c85
  | 86 => rz_c86
  | 87 => rz_c87
  | 88 => rz_c88
  | 89 => rz_c89
  | 90 => rz_c90
  | 91 => rz_c91
  | 92 => rz_c92
  | 93 => rz_c93
  | 94 => rz_c94
  | 95 => rz_c95
  | 96 => rz_c96
  | 97 => rz_c97
  | 98 => rz_c98
  | 99 => rz_c99
  | 100 => rz_c100
  | 101 => rz_c101
  | 102 => rz_c102
  | 103 => rz_c103
  | 104 => rz_c104
  | 105 => rz_c105
  | 106 => rz_c106
  | 107 => rz_c107
  | 108 => rz_c108
  | 109 => rz_c109
  | 110 => rz_c110
  | 111 => rz_c111
  | _ + 112 => rfl
theorem rz_lookup {l : List (Nat × rz_I)} {pc : Nat} {q : rz_I} (h : l.lookup pc = some q) : (pc, q) ∈ l := by
  induction l with
  | nil => cases h
  | cons a t ih =>
    obtain ⟨k, v⟩ := a
    rw [List.lookup_cons] at h
    split at h
    · rename_i hk
      have hk' : pc = k := by simpa using hk
      cases h
      subst hk'
      exact List.mem_cons_self
    · exact List.mem_cons_of_mem _ (ih h)
theorem rz_all {M pc : Nat} {q : rz_I} (h : rz_code M pc = some q) : rz_ok M pc q = true :=
  List.all_eq_true.mp (rz_allT M) (pc, q) (rz_lookup h)
theorem rz_lt {M pc : Nat} {q : rz_I} (h : rz_code M pc = some q) : M < 112 := by
  by_cases hM : M < 112
  · exact hM
  · obtain ⟨k, rfl⟩ : ∃ k, M = k + 112 := ⟨M - 112, by omega⟩
    exact absurd (show (none : Option rz_I) = some q from h) (by simp)

theorem rz_fx1 : Cond.code Lib.Math.min.name Lib.Math.min.code 2 (some .int) ∈ lw_tbl := List.mem_of_getElem? (i := 245) (by decide +kernel)
theorem rz_fx2 : Cond.static Lib.Math.min.name ∈ lw_tbl := List.mem_of_getElem? (i := 244) (by decide +kernel)
theorem rz_fx3 : Cond.initialized "java/lang/Math" ∈ lw_tbl := List.mem_of_getElem? (i := 46) (by decide +kernel)
theorem rz_fx4 : Cond.native arraycopyName ∈ lw_tbl := List.mem_of_getElem? (i := 552) (by decide +kernel)
theorem rz_fx5 : Cond.static arraycopyName ∈ lw_tbl := List.mem_of_getElem? (i := 551) (by decide +kernel)
theorem rz_fx6 : Cond.initialized "java/lang/System" ∈ lw_tbl := List.mem_of_getElem? (i := 44) (by decide +kernel)
theorem rz_sye : rz_sy = arraycopyName := rfl
