/-! The class's places: 1 CellYard, 2 Shapes (3 kinds, 4 sizes, 5 parts), 6 Ground (7 cells, 8 boxTaken, 9 rowTaken, 10 rowLengths), 11 Frames (12 handShapes, 13 handStarts, 14 slotShapes), 15 Dropping (16 waiting, 17 outs). -/
def CO (kn : Nat) (ks zs : Nat → Nat) (ps : Nat → Int32) (ce : Nat → Int64) (bt rt rl : Nat → Nat) (nb nr : Nat) (hsh hst : Nat → Nat) (ssh : Nat → Int32) (ih th : Nat) (wt : Nat → Nat) (os : Nat → Int64) (wn oc dr tm : Nat) (fa : Int32) (g : Nat → Option am_E) : Nat → Option am_E := fun p => match p with
  | 1 => some (.inr (4, [.ref 2, .ref 6, .ref 11, .ref 15, .int (nI tm), .int fa]))
  | 2 => some (.inr (3, [.ref 3, .ref 4, .ref 5, .int (nI kn)]))
  | 3 => some (.inl (.int, 24, .inl (fun j => nI (ks j))))
  | 4 => some (.inl (.int, 24, .inl (fun j => nI (zs j))))
  | 5 => some (.inl (.int, 72, .inl ps))
  | 6 => some (.inr (2, [.ref 7, .ref 8, .ref 9, .ref 10, .int (nI nb), .int (nI nr)]))
  | 7 => some (.inl (.long, 2720, .inr (.inl ce)))
  | 8 => some (.inl (.boolean, 60, .inl (fun j => nI (bt j))))
  | 9 => some (.inl (.boolean, 20, .inl (fun j => nI (rt j))))
  | 10 => some (.inl (.int, 20, .inl (fun j => nI (rl j))))
  | 11 => some (.inr (1, [.ref 12, .ref 13, .ref 14, .int (nI ih), .int (nI th)]))
  | 12 => some (.inl (.int, 24, .inl (fun j => nI (hsh j))))
  | 13 => some (.inl (.int, 12, .inl (fun j => nI (hst j))))
  | 14 => some (.inl (.int, 96, .inl ssh))
  | 15 => some (.inr (0, [.ref 2, .ref 6, .ref 16, .ref 17, .int (nI wn), .int (nI oc), .int (nI dr)]))
  | 16 => some (.inl (.int, 808, .inl (fun j => nI (wt j))))
  | 17 => some (.inl (.long, 400, .inr (.inl os)))
  | k => g k
theorem n_0 : (0 : Int32) = nI 0 := rfl
theorem n_1 : (1 : Int32) = nI 1 := rfl
theorem n_2 : (2 : Int32) = nI 2 := rfl
theorem n_3 : (3 : Int32) = nI 3 := rfl
theorem n_4 : (4 : Int32) = nI 4 := rfl
theorem n_5 : (5 : Int32) = nI 5 := rfl
theorem n_6 : (6 : Int32) = nI 6 := rfl
theorem n_7 : (7 : Int32) = nI 7 := rfl
theorem n_8 : (8 : Int32) = nI 8 := rfl
theorem n_9 : (9 : Int32) = nI 9 := rfl
theorem n_10 : (10 : Int32) = nI 10 := rfl
theorem n_12 : (12 : Int32) = nI 12 := rfl
theorem n_13 : (13 : Int32) = nI 13 := rfl
theorem n_15 : (15 : Int32) = nI 15 := rfl
theorem n_16 : (16 : Int32) = nI 16 := rfl
theorem n_20 : (20 : Int32) = nI 20 := rfl
theorem n_24 : (24 : Int32) = nI 24 := rfl
theorem n_60 : (60 : Int32) = nI 60 := rfl
theorem n_64 : (64 : Int32) = nI 64 := rfl
theorem n_72 : (72 : Int32) = nI 72 := rfl
theorem n_96 : (96 : Int32) = nI 96 := rfl
theorem n_192 : (192 : Int32) = nI 192 := rfl
theorem n_256 : (256 : Int32) = nI 256 := rfl
theorem n_400 : (400 : Int32) = nI 400 := rfl
theorem n_808 : (808 : Int32) = nI 808 := rfl
theorem n_960 : (960 : Int32) = nI 960 := rfl
theorem n_1440 : (1440 : Int32) = nI 1440 := rfl
theorem n_2048 : (2048 : Int32) = nI 2048 := rfl
theorem n_2720 : (2720 : Int32) = nI 2720 := rfl
theorem n_16777215 : (16777215 : Int32) = nI 16777215 := rfl
theorem n_1000000 : (1000000 : Int32) = nI 1000000 := rfl
theorem i_lt_t {a b : Nat} (h : a < b) (hb : b < 2 ^ 31) : (nI a < nI b) = True := eq_true (nI_lt h hb)
theorem i_lt_f {a b : Nat} (h : b ≤ a) (hb : a < 2 ^ 31) : (nI a < nI b) = False := eq_false (nI_nlt h hb)
theorem i_le_t {a b : Nat} (h : a ≤ b) (hb : b < 2 ^ 31) : (nI a ≤ nI b) = True := eq_true (nI_le h hb)
theorem i_le_f {a b : Nat} (h : b < a) (hb : a < 2 ^ 31) : (nI a ≤ nI b) = False := eq_false (nI_ge h hb)
theorem i_eq_t {a b : Nat} (h : a = b) : (nI a = nI b) = True := eq_true (by rw [h])
theorem i_eq_f {a b : Nat} (h : a ≠ b) (ha : a < 2 ^ 31) (hb : b < 2 ^ 31) : (nI a = nI b) = False := eq_false (fun e => h ((nI_eq ha hb).mp e))
def mI : Int32 := -1
def fI : Int32 := -2
theorem n_m2 : (-2 : Int32) = fI := rfl
theorem n_m1 : (-1 : Int32) = mI := rfl
theorem mI_toInt : mI.toInt = -1 := by decide +kernel
theorem i_m1 {a : Nat} (ha : a < 2 ^ 31) : (nI a = mI) = False := eq_false (fun e => by
  have h := congrArg Int32.toInt e
  rw [nI_toInt ha, mI_toInt] at h
  omega)
theorem i_m1s {a : Nat} (ha : a < 2 ^ 31) : (mI = nI a) = False := eq_false (fun e => (i_m1 ha).mp e.symm)
theorem i_m1lt {a : Nat} (ha : a < 2 ^ 31) : (mI < nI a) = True := eq_true (by
  rw [Int32.lt_iff_toInt_lt, nI_toInt ha, mI_toInt]; omega)
theorem i_m1le {a : Nat} (ha : a < 2 ^ 31) : (nI a ≤ mI) = False := eq_false (by
  rw [Int32.le_iff_toInt_le, nI_toInt ha, mI_toInt]; omega)
theorem i_m1l2 {a : Nat} (ha : a < 2 ^ 31) : (mI ≤ nI a) = True := eq_true (by
  rw [Int32.le_iff_toInt_le, nI_toInt ha, mI_toInt]; omega)
theorem i_m1l3 {a : Nat} (ha : a < 2 ^ 31) : (nI a < mI) = False := eq_false (by
  rw [Int32.lt_iff_toInt_lt, nI_toInt ha, mI_toInt]; omega)
theorem i_mm : (mI = mI) = True := eq_true rfl
theorem l_0 : (0 : Int64) = lN 0 := rfl
theorem l_1 : (1 : Int64) = lN 1 := rfl
theorem l_8 : (8 : Int64) = lN 8 := rfl
theorem l_20 : (20 : Int64) = lN 20 := rfl
theorem l_60 : (60 : Int64) = lN 60 := rfl
theorem l_lt_t {a b : Nat} (h : a < b) (hb : b < 2 ^ 31) : (lg_cmp (lN a) (lN b) < nI 0) = True := eq_true ((lg_cmp_lt _ _).mpr ((lN_lt (by omega) hb).mpr h))
theorem l_lt_f {a b : Nat} (h : b ≤ a) (ha : a < 2 ^ 31) : (lg_cmp (lN a) (lN b) < nI 0) = False := eq_false (fun e => by have := (lN_lt ha (by omega)).mp ((lg_cmp_lt _ _).mp e); omega)
theorem l_ge_t {a b : Nat} (h : b ≤ a) (ha : a < 2 ^ 31) : (nI 0 ≤ lg_cmp (lN a) (lN b)) = True := eq_true ((lg_cmp_ge _ _).mpr ((lN_le (by omega) ha).mpr h))
theorem l_ge_f {a b : Nat} (h : a < b) (hb : b < 2 ^ 31) : (nI 0 ≤ lg_cmp (lN a) (lN b)) = False := eq_false (fun e => by have := (lN_le hb (by omega)).mp ((lg_cmp_ge _ _).mp e); omega)
theorem l_eq_t {a b : Nat} (h : a = b) : (lg_cmp (lN a) (lN b) = nI 0) = True := eq_true ((lg_cmp_eq _ _).mpr (by rw [h]))
theorem l_eq_f {a b : Nat} (h : a ≠ b) (ha : a < 2 ^ 31) (hb : b < 2 ^ 31) : (lg_cmp (lN a) (lN b) = nI 0) = False := eq_false (fun e => h ((lN_eq ha hb).mp ((lg_cmp_eq _ _).mp e)))
theorem z_01 : nI 0 = 0 ∨ nI 0 = 1 := Or.inl rfl
theorem z_11 : nI 1 = 0 ∨ nI 1 = 1 := Or.inr rfl
theorem i_dec {a : Nat} (h : 0 < a) : nI a + mI = nI (a - 1) := by
  obtain ⟨b, rfl⟩ : ∃ b, a = b + 1 := ⟨a - 1, by omega⟩
  exact pk_m1 b
theorem i_dec0 : nI 0 + mI = mI := by decide +kernel
theorem i_s01 : nI 0 - nI 1 = mI := by decide +kernel
theorem i_div {a d : Nat} (ha : a < 2 ^ 31) (h0 : 0 < d) (hd : d < 2 ^ 31) : nI a / nI d = nI (a / d) := pk_div ha h0 hd
theorem nz_24 : ¬ nI 24 = 0 := by decide
theorem nz_16 : ¬ nI 16 = 0 := by decide
theorem i_sub {a b : Nat} (h : b ≤ a) : nI a - nI b = nI (a - b) := pk_sub h
theorem c_gf_0_0 {kn : Nat} {ks zs : Nat → Nat} {ps : Nat → Int32} {ce : Nat → Int64} {bt rt rl : Nat → Nat} {nb nr : Nat} {hsh hst : Nat → Nat} {ssh : Nat → Int32} {ih th : Nat} {wt : Nat → Nat} {os : Nat → Int64} {wn oc dr tm : Nat} {fa : Int32} {g : Nat → Option am_E} {n m : Nat} : am_gf (n, m, CO kn ks zs ps ce bt rt rl nb nr hsh hst ssh ih th wt os wn oc dr tm fa g) 15 0 0 = some (.ref 2) := rfl
theorem c_gf_0_1 {kn : Nat} {ks zs : Nat → Nat} {ps : Nat → Int32} {ce : Nat → Int64} {bt rt rl : Nat → Nat} {nb nr : Nat} {hsh hst : Nat → Nat} {ssh : Nat → Int32} {ih th : Nat} {wt : Nat → Nat} {os : Nat → Int64} {wn oc dr tm : Nat} {fa : Int32} {g : Nat → Option am_E} {n m : Nat} : am_gf (n, m, CO kn ks zs ps ce bt rt rl nb nr hsh hst ssh ih th wt os wn oc dr tm fa g) 15 0 1 = some (.ref 6) := rfl
theorem c_gf_0_2 {kn : Nat} {ks zs : Nat → Nat} {ps : Nat → Int32} {ce : Nat → Int64} {bt rt rl : Nat → Nat} {nb nr : Nat} {hsh hst : Nat → Nat} {ssh : Nat → Int32} {ih th : Nat} {wt : Nat → Nat} {os : Nat → Int64} {wn oc dr tm : Nat} {fa : Int32} {g : Nat → Option am_E} {n m : Nat} : am_gf (n, m, CO kn ks zs ps ce bt rt rl nb nr hsh hst ssh ih th wt os wn oc dr tm fa g) 15 0 2 = some (.ref 16) := rfl
theorem c_gf_0_3 {kn : Nat} {ks zs : Nat → Nat} {ps : Nat → Int32} {ce : Nat → Int64} {bt rt rl : Nat → Nat} {nb nr : Nat} {hsh hst : Nat → Nat} {ssh : Nat → Int32} {ih th : Nat} {wt : Nat → Nat} {os : Nat → Int64} {wn oc dr tm : Nat} {fa : Int32} {g : Nat → Option am_E} {n m : Nat} : am_gf (n, m, CO kn ks zs ps ce bt rt rl nb nr hsh hst ssh ih th wt os wn oc dr tm fa g) 15 0 3 = some (.ref 17) := rfl
theorem c_gf_0_4 {kn : Nat} {ks zs : Nat → Nat} {ps : Nat → Int32} {ce : Nat → Int64} {bt rt rl : Nat → Nat} {nb nr : Nat} {hsh hst : Nat → Nat} {ssh : Nat → Int32} {ih th : Nat} {wt : Nat → Nat} {os : Nat → Int64} {wn oc dr tm : Nat} {fa : Int32} {g : Nat → Option am_E} {n m : Nat} : am_gf (n, m, CO kn ks zs ps ce bt rt rl nb nr hsh hst ssh ih th wt os wn oc dr tm fa g) 15 0 4 = some (.int (nI wn)) := rfl
theorem c_tc_0_4 (x : Int32) : am_tc (am_ty 0 4) (.int x) = true := q_tci x
theorem c_pf_0_4 {kn : Nat} {ks zs : Nat → Nat} {ps : Nat → Int32} {ce : Nat → Int64} {bt rt rl : Nat → Nat} {nb nr : Nat} {hsh hst : Nat → Nat} {ssh : Nat → Int32} {ih th : Nat} {wt : Nat → Nat} {os : Nat → Int64} {wn oc dr tm : Nat} {fa : Int32} {g : Nat → Option am_E} {n m : Nat} (z : Nat) : am_pf (n, m, CO kn ks zs ps ce bt rt rl nb nr hsh hst ssh ih th wt os wn oc dr tm fa g) 15 0 4 (.int (nI z)) = some (n, m, CO kn ks zs ps ce bt rt rl nb nr hsh hst ssh ih th wt os (z) oc dr tm fa g) := by
  show some (am_up _ _ _) = _
  refine congrArg some (Prod.ext rfl (Prod.ext rfl (funext fun p => ?_)))
  show (if p = 15 then _ else CO kn ks zs ps ce bt rt rl nb nr hsh hst ssh ih th wt os wn oc dr tm fa g p) = CO kn ks zs ps ce bt rt rl nb nr hsh hst ssh ih th wt os z oc dr tm fa g p
  by_cases hp : p = 15
  · subst hp; rfl
  · rw [if_neg hp]
    unfold CO
    split <;> first | rfl | exact absurd rfl hp
theorem c_gf_0_5 {kn : Nat} {ks zs : Nat → Nat} {ps : Nat → Int32} {ce : Nat → Int64} {bt rt rl : Nat → Nat} {nb nr : Nat} {hsh hst : Nat → Nat} {ssh : Nat → Int32} {ih th : Nat} {wt : Nat → Nat} {os : Nat → Int64} {wn oc dr tm : Nat} {fa : Int32} {g : Nat → Option am_E} {n m : Nat} : am_gf (n, m, CO kn ks zs ps ce bt rt rl nb nr hsh hst ssh ih th wt os wn oc dr tm fa g) 15 0 5 = some (.int (nI oc)) := rfl
theorem c_tc_0_5 (x : Int32) : am_tc (am_ty 0 5) (.int x) = true := q_tci x
theorem c_pf_0_5 {kn : Nat} {ks zs : Nat → Nat} {ps : Nat → Int32} {ce : Nat → Int64} {bt rt rl : Nat → Nat} {nb nr : Nat} {hsh hst : Nat → Nat} {ssh : Nat → Int32} {ih th : Nat} {wt : Nat → Nat} {os : Nat → Int64} {wn oc dr tm : Nat} {fa : Int32} {g : Nat → Option am_E} {n m : Nat} (z : Nat) : am_pf (n, m, CO kn ks zs ps ce bt rt rl nb nr hsh hst ssh ih th wt os wn oc dr tm fa g) 15 0 5 (.int (nI z)) = some (n, m, CO kn ks zs ps ce bt rt rl nb nr hsh hst ssh ih th wt os wn (z) dr tm fa g) := by
  show some (am_up _ _ _) = _
  refine congrArg some (Prod.ext rfl (Prod.ext rfl (funext fun p => ?_)))
  show (if p = 15 then _ else CO kn ks zs ps ce bt rt rl nb nr hsh hst ssh ih th wt os wn oc dr tm fa g p) = CO kn ks zs ps ce bt rt rl nb nr hsh hst ssh ih th wt os wn z dr tm fa g p
  by_cases hp : p = 15
  · subst hp; rfl
  · rw [if_neg hp]
    unfold CO
    split <;> first | rfl | exact absurd rfl hp
theorem c_gf_0_6 {kn : Nat} {ks zs : Nat → Nat} {ps : Nat → Int32} {ce : Nat → Int64} {bt rt rl : Nat → Nat} {nb nr : Nat} {hsh hst : Nat → Nat} {ssh : Nat → Int32} {ih th : Nat} {wt : Nat → Nat} {os : Nat → Int64} {wn oc dr tm : Nat} {fa : Int32} {g : Nat → Option am_E} {n m : Nat} : am_gf (n, m, CO kn ks zs ps ce bt rt rl nb nr hsh hst ssh ih th wt os wn oc dr tm fa g) 15 0 6 = some (.int (nI dr)) := rfl
theorem c_tc_0_6 (x : Int32) : am_tc (am_ty 0 6) (.int x) = true := q_tci x
theorem c_pf_0_6 {kn : Nat} {ks zs : Nat → Nat} {ps : Nat → Int32} {ce : Nat → Int64} {bt rt rl : Nat → Nat} {nb nr : Nat} {hsh hst : Nat → Nat} {ssh : Nat → Int32} {ih th : Nat} {wt : Nat → Nat} {os : Nat → Int64} {wn oc dr tm : Nat} {fa : Int32} {g : Nat → Option am_E} {n m : Nat} (z : Nat) : am_pf (n, m, CO kn ks zs ps ce bt rt rl nb nr hsh hst ssh ih th wt os wn oc dr tm fa g) 15 0 6 (.int (nI z)) = some (n, m, CO kn ks zs ps ce bt rt rl nb nr hsh hst ssh ih th wt os wn oc (z) tm fa g) := by
  show some (am_up _ _ _) = _
  refine congrArg some (Prod.ext rfl (Prod.ext rfl (funext fun p => ?_)))
  show (if p = 15 then _ else CO kn ks zs ps ce bt rt rl nb nr hsh hst ssh ih th wt os wn oc dr tm fa g p) = CO kn ks zs ps ce bt rt rl nb nr hsh hst ssh ih th wt os wn oc z tm fa g p
  by_cases hp : p = 15
  · subst hp; rfl
  · rw [if_neg hp]
    unfold CO
    split <;> first | rfl | exact absurd rfl hp
theorem c_cl_0 {kn : Nat} {ks zs : Nat → Nat} {ps : Nat → Int32} {ce : Nat → Int64} {bt rt rl : Nat → Nat} {nb nr : Nat} {hsh hst : Nat → Nat} {ssh : Nat → Int32} {ih th : Nat} {wt : Nat → Nat} {os : Nat → Int64} {wn oc dr tm : Nat} {fa : Int32} {g : Nat → Option am_E} {n m : Nat} : am_cl (n, m, CO kn ks zs ps ce bt rt rl nb nr hsh hst ssh ih th wt os wn oc dr tm fa g) 15 = some 0 := rfl
theorem c_gf_1_0 {kn : Nat} {ks zs : Nat → Nat} {ps : Nat → Int32} {ce : Nat → Int64} {bt rt rl : Nat → Nat} {nb nr : Nat} {hsh hst : Nat → Nat} {ssh : Nat → Int32} {ih th : Nat} {wt : Nat → Nat} {os : Nat → Int64} {wn oc dr tm : Nat} {fa : Int32} {g : Nat → Option am_E} {n m : Nat} : am_gf (n, m, CO kn ks zs ps ce bt rt rl nb nr hsh hst ssh ih th wt os wn oc dr tm fa g) 11 1 0 = some (.ref 12) := rfl
theorem c_gf_1_1 {kn : Nat} {ks zs : Nat → Nat} {ps : Nat → Int32} {ce : Nat → Int64} {bt rt rl : Nat → Nat} {nb nr : Nat} {hsh hst : Nat → Nat} {ssh : Nat → Int32} {ih th : Nat} {wt : Nat → Nat} {os : Nat → Int64} {wn oc dr tm : Nat} {fa : Int32} {g : Nat → Option am_E} {n m : Nat} : am_gf (n, m, CO kn ks zs ps ce bt rt rl nb nr hsh hst ssh ih th wt os wn oc dr tm fa g) 11 1 1 = some (.ref 13) := rfl
theorem c_gf_1_2 {kn : Nat} {ks zs : Nat → Nat} {ps : Nat → Int32} {ce : Nat → Int64} {bt rt rl : Nat → Nat} {nb nr : Nat} {hsh hst : Nat → Nat} {ssh : Nat → Int32} {ih th : Nat} {wt : Nat → Nat} {os : Nat → Int64} {wn oc dr tm : Nat} {fa : Int32} {g : Nat → Option am_E} {n m : Nat} : am_gf (n, m, CO kn ks zs ps ce bt rt rl nb nr hsh hst ssh ih th wt os wn oc dr tm fa g) 11 1 2 = some (.ref 14) := rfl
theorem c_gf_1_3 {kn : Nat} {ks zs : Nat → Nat} {ps : Nat → Int32} {ce : Nat → Int64} {bt rt rl : Nat → Nat} {nb nr : Nat} {hsh hst : Nat → Nat} {ssh : Nat → Int32} {ih th : Nat} {wt : Nat → Nat} {os : Nat → Int64} {wn oc dr tm : Nat} {fa : Int32} {g : Nat → Option am_E} {n m : Nat} : am_gf (n, m, CO kn ks zs ps ce bt rt rl nb nr hsh hst ssh ih th wt os wn oc dr tm fa g) 11 1 3 = some (.int (nI ih)) := rfl
theorem c_tc_1_3 (x : Int32) : am_tc (am_ty 1 3) (.int x) = true := q_tci x
theorem c_pf_1_3 {kn : Nat} {ks zs : Nat → Nat} {ps : Nat → Int32} {ce : Nat → Int64} {bt rt rl : Nat → Nat} {nb nr : Nat} {hsh hst : Nat → Nat} {ssh : Nat → Int32} {ih th : Nat} {wt : Nat → Nat} {os : Nat → Int64} {wn oc dr tm : Nat} {fa : Int32} {g : Nat → Option am_E} {n m : Nat} (z : Nat) : am_pf (n, m, CO kn ks zs ps ce bt rt rl nb nr hsh hst ssh ih th wt os wn oc dr tm fa g) 11 1 3 (.int (nI z)) = some (n, m, CO kn ks zs ps ce bt rt rl nb nr hsh hst ssh (z) th wt os wn oc dr tm fa g) := by
  show some (am_up _ _ _) = _
  refine congrArg some (Prod.ext rfl (Prod.ext rfl (funext fun p => ?_)))
  show (if p = 11 then _ else CO kn ks zs ps ce bt rt rl nb nr hsh hst ssh ih th wt os wn oc dr tm fa g p) = CO kn ks zs ps ce bt rt rl nb nr hsh hst ssh z th wt os wn oc dr tm fa g p
  by_cases hp : p = 11
  · subst hp; rfl
  · rw [if_neg hp]
    unfold CO
    split <;> first | rfl | exact absurd rfl hp
theorem c_gf_1_4 {kn : Nat} {ks zs : Nat → Nat} {ps : Nat → Int32} {ce : Nat → Int64} {bt rt rl : Nat → Nat} {nb nr : Nat} {hsh hst : Nat → Nat} {ssh : Nat → Int32} {ih th : Nat} {wt : Nat → Nat} {os : Nat → Int64} {wn oc dr tm : Nat} {fa : Int32} {g : Nat → Option am_E} {n m : Nat} : am_gf (n, m, CO kn ks zs ps ce bt rt rl nb nr hsh hst ssh ih th wt os wn oc dr tm fa g) 11 1 4 = some (.int (nI th)) := rfl
theorem c_tc_1_4 (x : Int32) : am_tc (am_ty 1 4) (.int x) = true := q_tci x
theorem c_pf_1_4 {kn : Nat} {ks zs : Nat → Nat} {ps : Nat → Int32} {ce : Nat → Int64} {bt rt rl : Nat → Nat} {nb nr : Nat} {hsh hst : Nat → Nat} {ssh : Nat → Int32} {ih th : Nat} {wt : Nat → Nat} {os : Nat → Int64} {wn oc dr tm : Nat} {fa : Int32} {g : Nat → Option am_E} {n m : Nat} (z : Nat) : am_pf (n, m, CO kn ks zs ps ce bt rt rl nb nr hsh hst ssh ih th wt os wn oc dr tm fa g) 11 1 4 (.int (nI z)) = some (n, m, CO kn ks zs ps ce bt rt rl nb nr hsh hst ssh ih (z) wt os wn oc dr tm fa g) := by
  show some (am_up _ _ _) = _
  refine congrArg some (Prod.ext rfl (Prod.ext rfl (funext fun p => ?_)))
  show (if p = 11 then _ else CO kn ks zs ps ce bt rt rl nb nr hsh hst ssh ih th wt os wn oc dr tm fa g p) = CO kn ks zs ps ce bt rt rl nb nr hsh hst ssh ih z wt os wn oc dr tm fa g p
  by_cases hp : p = 11
  · subst hp; rfl
  · rw [if_neg hp]
    unfold CO
    split <;> first | rfl | exact absurd rfl hp
theorem c_cl_1 {kn : Nat} {ks zs : Nat → Nat} {ps : Nat → Int32} {ce : Nat → Int64} {bt rt rl : Nat → Nat} {nb nr : Nat} {hsh hst : Nat → Nat} {ssh : Nat → Int32} {ih th : Nat} {wt : Nat → Nat} {os : Nat → Int64} {wn oc dr tm : Nat} {fa : Int32} {g : Nat → Option am_E} {n m : Nat} : am_cl (n, m, CO kn ks zs ps ce bt rt rl nb nr hsh hst ssh ih th wt os wn oc dr tm fa g) 11 = some 1 := rfl
theorem c_gf_2_0 {kn : Nat} {ks zs : Nat → Nat} {ps : Nat → Int32} {ce : Nat → Int64} {bt rt rl : Nat → Nat} {nb nr : Nat} {hsh hst : Nat → Nat} {ssh : Nat → Int32} {ih th : Nat} {wt : Nat → Nat} {os : Nat → Int64} {wn oc dr tm : Nat} {fa : Int32} {g : Nat → Option am_E} {n m : Nat} : am_gf (n, m, CO kn ks zs ps ce bt rt rl nb nr hsh hst ssh ih th wt os wn oc dr tm fa g) 6 2 0 = some (.ref 7) := rfl
theorem c_gf_2_1 {kn : Nat} {ks zs : Nat → Nat} {ps : Nat → Int32} {ce : Nat → Int64} {bt rt rl : Nat → Nat} {nb nr : Nat} {hsh hst : Nat → Nat} {ssh : Nat → Int32} {ih th : Nat} {wt : Nat → Nat} {os : Nat → Int64} {wn oc dr tm : Nat} {fa : Int32} {g : Nat → Option am_E} {n m : Nat} : am_gf (n, m, CO kn ks zs ps ce bt rt rl nb nr hsh hst ssh ih th wt os wn oc dr tm fa g) 6 2 1 = some (.ref 8) := rfl
theorem c_gf_2_2 {kn : Nat} {ks zs : Nat → Nat} {ps : Nat → Int32} {ce : Nat → Int64} {bt rt rl : Nat → Nat} {nb nr : Nat} {hsh hst : Nat → Nat} {ssh : Nat → Int32} {ih th : Nat} {wt : Nat → Nat} {os : Nat → Int64} {wn oc dr tm : Nat} {fa : Int32} {g : Nat → Option am_E} {n m : Nat} : am_gf (n, m, CO kn ks zs ps ce bt rt rl nb nr hsh hst ssh ih th wt os wn oc dr tm fa g) 6 2 2 = some (.ref 9) := rfl
theorem c_gf_2_3 {kn : Nat} {ks zs : Nat → Nat} {ps : Nat → Int32} {ce : Nat → Int64} {bt rt rl : Nat → Nat} {nb nr : Nat} {hsh hst : Nat → Nat} {ssh : Nat → Int32} {ih th : Nat} {wt : Nat → Nat} {os : Nat → Int64} {wn oc dr tm : Nat} {fa : Int32} {g : Nat → Option am_E} {n m : Nat} : am_gf (n, m, CO kn ks zs ps ce bt rt rl nb nr hsh hst ssh ih th wt os wn oc dr tm fa g) 6 2 3 = some (.ref 10) := rfl
theorem c_gf_2_4 {kn : Nat} {ks zs : Nat → Nat} {ps : Nat → Int32} {ce : Nat → Int64} {bt rt rl : Nat → Nat} {nb nr : Nat} {hsh hst : Nat → Nat} {ssh : Nat → Int32} {ih th : Nat} {wt : Nat → Nat} {os : Nat → Int64} {wn oc dr tm : Nat} {fa : Int32} {g : Nat → Option am_E} {n m : Nat} : am_gf (n, m, CO kn ks zs ps ce bt rt rl nb nr hsh hst ssh ih th wt os wn oc dr tm fa g) 6 2 4 = some (.int (nI nb)) := rfl
theorem c_tc_2_4 (x : Int32) : am_tc (am_ty 2 4) (.int x) = true := q_tci x
theorem c_pf_2_4 {kn : Nat} {ks zs : Nat → Nat} {ps : Nat → Int32} {ce : Nat → Int64} {bt rt rl : Nat → Nat} {nb nr : Nat} {hsh hst : Nat → Nat} {ssh : Nat → Int32} {ih th : Nat} {wt : Nat → Nat} {os : Nat → Int64} {wn oc dr tm : Nat} {fa : Int32} {g : Nat → Option am_E} {n m : Nat} (z : Nat) : am_pf (n, m, CO kn ks zs ps ce bt rt rl nb nr hsh hst ssh ih th wt os wn oc dr tm fa g) 6 2 4 (.int (nI z)) = some (n, m, CO kn ks zs ps ce bt rt rl (z) nr hsh hst ssh ih th wt os wn oc dr tm fa g) := by
  show some (am_up _ _ _) = _
  refine congrArg some (Prod.ext rfl (Prod.ext rfl (funext fun p => ?_)))
  show (if p = 6 then _ else CO kn ks zs ps ce bt rt rl nb nr hsh hst ssh ih th wt os wn oc dr tm fa g p) = CO kn ks zs ps ce bt rt rl z nr hsh hst ssh ih th wt os wn oc dr tm fa g p
  by_cases hp : p = 6
  · subst hp; rfl
  · rw [if_neg hp]
    unfold CO
    split <;> first | rfl | exact absurd rfl hp
theorem c_gf_2_5 {kn : Nat} {ks zs : Nat → Nat} {ps : Nat → Int32} {ce : Nat → Int64} {bt rt rl : Nat → Nat} {nb nr : Nat} {hsh hst : Nat → Nat} {ssh : Nat → Int32} {ih th : Nat} {wt : Nat → Nat} {os : Nat → Int64} {wn oc dr tm : Nat} {fa : Int32} {g : Nat → Option am_E} {n m : Nat} : am_gf (n, m, CO kn ks zs ps ce bt rt rl nb nr hsh hst ssh ih th wt os wn oc dr tm fa g) 6 2 5 = some (.int (nI nr)) := rfl
theorem c_tc_2_5 (x : Int32) : am_tc (am_ty 2 5) (.int x) = true := q_tci x
theorem c_pf_2_5 {kn : Nat} {ks zs : Nat → Nat} {ps : Nat → Int32} {ce : Nat → Int64} {bt rt rl : Nat → Nat} {nb nr : Nat} {hsh hst : Nat → Nat} {ssh : Nat → Int32} {ih th : Nat} {wt : Nat → Nat} {os : Nat → Int64} {wn oc dr tm : Nat} {fa : Int32} {g : Nat → Option am_E} {n m : Nat} (z : Nat) : am_pf (n, m, CO kn ks zs ps ce bt rt rl nb nr hsh hst ssh ih th wt os wn oc dr tm fa g) 6 2 5 (.int (nI z)) = some (n, m, CO kn ks zs ps ce bt rt rl nb (z) hsh hst ssh ih th wt os wn oc dr tm fa g) := by
  show some (am_up _ _ _) = _
  refine congrArg some (Prod.ext rfl (Prod.ext rfl (funext fun p => ?_)))
  show (if p = 6 then _ else CO kn ks zs ps ce bt rt rl nb nr hsh hst ssh ih th wt os wn oc dr tm fa g p) = CO kn ks zs ps ce bt rt rl nb z hsh hst ssh ih th wt os wn oc dr tm fa g p
  by_cases hp : p = 6
  · subst hp; rfl
  · rw [if_neg hp]
    unfold CO
    split <;> first | rfl | exact absurd rfl hp
theorem c_cl_2 {kn : Nat} {ks zs : Nat → Nat} {ps : Nat → Int32} {ce : Nat → Int64} {bt rt rl : Nat → Nat} {nb nr : Nat} {hsh hst : Nat → Nat} {ssh : Nat → Int32} {ih th : Nat} {wt : Nat → Nat} {os : Nat → Int64} {wn oc dr tm : Nat} {fa : Int32} {g : Nat → Option am_E} {n m : Nat} : am_cl (n, m, CO kn ks zs ps ce bt rt rl nb nr hsh hst ssh ih th wt os wn oc dr tm fa g) 6 = some 2 := rfl
theorem c_gf_3_0 {kn : Nat} {ks zs : Nat → Nat} {ps : Nat → Int32} {ce : Nat → Int64} {bt rt rl : Nat → Nat} {nb nr : Nat} {hsh hst : Nat → Nat} {ssh : Nat → Int32} {ih th : Nat} {wt : Nat → Nat} {os : Nat → Int64} {wn oc dr tm : Nat} {fa : Int32} {g : Nat → Option am_E} {n m : Nat} : am_gf (n, m, CO kn ks zs ps ce bt rt rl nb nr hsh hst ssh ih th wt os wn oc dr tm fa g) 2 3 0 = some (.ref 3) := rfl
theorem c_gf_3_1 {kn : Nat} {ks zs : Nat → Nat} {ps : Nat → Int32} {ce : Nat → Int64} {bt rt rl : Nat → Nat} {nb nr : Nat} {hsh hst : Nat → Nat} {ssh : Nat → Int32} {ih th : Nat} {wt : Nat → Nat} {os : Nat → Int64} {wn oc dr tm : Nat} {fa : Int32} {g : Nat → Option am_E} {n m : Nat} : am_gf (n, m, CO kn ks zs ps ce bt rt rl nb nr hsh hst ssh ih th wt os wn oc dr tm fa g) 2 3 1 = some (.ref 4) := rfl
theorem c_gf_3_2 {kn : Nat} {ks zs : Nat → Nat} {ps : Nat → Int32} {ce : Nat → Int64} {bt rt rl : Nat → Nat} {nb nr : Nat} {hsh hst : Nat → Nat} {ssh : Nat → Int32} {ih th : Nat} {wt : Nat → Nat} {os : Nat → Int64} {wn oc dr tm : Nat} {fa : Int32} {g : Nat → Option am_E} {n m : Nat} : am_gf (n, m, CO kn ks zs ps ce bt rt rl nb nr hsh hst ssh ih th wt os wn oc dr tm fa g) 2 3 2 = some (.ref 5) := rfl
theorem c_gf_3_3 {kn : Nat} {ks zs : Nat → Nat} {ps : Nat → Int32} {ce : Nat → Int64} {bt rt rl : Nat → Nat} {nb nr : Nat} {hsh hst : Nat → Nat} {ssh : Nat → Int32} {ih th : Nat} {wt : Nat → Nat} {os : Nat → Int64} {wn oc dr tm : Nat} {fa : Int32} {g : Nat → Option am_E} {n m : Nat} : am_gf (n, m, CO kn ks zs ps ce bt rt rl nb nr hsh hst ssh ih th wt os wn oc dr tm fa g) 2 3 3 = some (.int (nI kn)) := rfl
theorem c_tc_3_3 (x : Int32) : am_tc (am_ty 3 3) (.int x) = true := q_tci x
theorem c_pf_3_3 {kn : Nat} {ks zs : Nat → Nat} {ps : Nat → Int32} {ce : Nat → Int64} {bt rt rl : Nat → Nat} {nb nr : Nat} {hsh hst : Nat → Nat} {ssh : Nat → Int32} {ih th : Nat} {wt : Nat → Nat} {os : Nat → Int64} {wn oc dr tm : Nat} {fa : Int32} {g : Nat → Option am_E} {n m : Nat} (z : Nat) : am_pf (n, m, CO kn ks zs ps ce bt rt rl nb nr hsh hst ssh ih th wt os wn oc dr tm fa g) 2 3 3 (.int (nI z)) = some (n, m, CO (z) ks zs ps ce bt rt rl nb nr hsh hst ssh ih th wt os wn oc dr tm fa g) := by
  show some (am_up _ _ _) = _
  refine congrArg some (Prod.ext rfl (Prod.ext rfl (funext fun p => ?_)))
  show (if p = 2 then _ else CO kn ks zs ps ce bt rt rl nb nr hsh hst ssh ih th wt os wn oc dr tm fa g p) = CO z ks zs ps ce bt rt rl nb nr hsh hst ssh ih th wt os wn oc dr tm fa g p
  by_cases hp : p = 2
  · subst hp; rfl
  · rw [if_neg hp]
    unfold CO
    split <;> first | rfl | exact absurd rfl hp
theorem c_cl_3 {kn : Nat} {ks zs : Nat → Nat} {ps : Nat → Int32} {ce : Nat → Int64} {bt rt rl : Nat → Nat} {nb nr : Nat} {hsh hst : Nat → Nat} {ssh : Nat → Int32} {ih th : Nat} {wt : Nat → Nat} {os : Nat → Int64} {wn oc dr tm : Nat} {fa : Int32} {g : Nat → Option am_E} {n m : Nat} : am_cl (n, m, CO kn ks zs ps ce bt rt rl nb nr hsh hst ssh ih th wt os wn oc dr tm fa g) 2 = some 3 := rfl
theorem c_gf_4_0 {kn : Nat} {ks zs : Nat → Nat} {ps : Nat → Int32} {ce : Nat → Int64} {bt rt rl : Nat → Nat} {nb nr : Nat} {hsh hst : Nat → Nat} {ssh : Nat → Int32} {ih th : Nat} {wt : Nat → Nat} {os : Nat → Int64} {wn oc dr tm : Nat} {fa : Int32} {g : Nat → Option am_E} {n m : Nat} : am_gf (n, m, CO kn ks zs ps ce bt rt rl nb nr hsh hst ssh ih th wt os wn oc dr tm fa g) 1 4 0 = some (.ref 2) := rfl
theorem c_gf_4_1 {kn : Nat} {ks zs : Nat → Nat} {ps : Nat → Int32} {ce : Nat → Int64} {bt rt rl : Nat → Nat} {nb nr : Nat} {hsh hst : Nat → Nat} {ssh : Nat → Int32} {ih th : Nat} {wt : Nat → Nat} {os : Nat → Int64} {wn oc dr tm : Nat} {fa : Int32} {g : Nat → Option am_E} {n m : Nat} : am_gf (n, m, CO kn ks zs ps ce bt rt rl nb nr hsh hst ssh ih th wt os wn oc dr tm fa g) 1 4 1 = some (.ref 6) := rfl
theorem c_gf_4_2 {kn : Nat} {ks zs : Nat → Nat} {ps : Nat → Int32} {ce : Nat → Int64} {bt rt rl : Nat → Nat} {nb nr : Nat} {hsh hst : Nat → Nat} {ssh : Nat → Int32} {ih th : Nat} {wt : Nat → Nat} {os : Nat → Int64} {wn oc dr tm : Nat} {fa : Int32} {g : Nat → Option am_E} {n m : Nat} : am_gf (n, m, CO kn ks zs ps ce bt rt rl nb nr hsh hst ssh ih th wt os wn oc dr tm fa g) 1 4 2 = some (.ref 11) := rfl
theorem c_gf_4_3 {kn : Nat} {ks zs : Nat → Nat} {ps : Nat → Int32} {ce : Nat → Int64} {bt rt rl : Nat → Nat} {nb nr : Nat} {hsh hst : Nat → Nat} {ssh : Nat → Int32} {ih th : Nat} {wt : Nat → Nat} {os : Nat → Int64} {wn oc dr tm : Nat} {fa : Int32} {g : Nat → Option am_E} {n m : Nat} : am_gf (n, m, CO kn ks zs ps ce bt rt rl nb nr hsh hst ssh ih th wt os wn oc dr tm fa g) 1 4 3 = some (.ref 15) := rfl
theorem c_gf_4_4 {kn : Nat} {ks zs : Nat → Nat} {ps : Nat → Int32} {ce : Nat → Int64} {bt rt rl : Nat → Nat} {nb nr : Nat} {hsh hst : Nat → Nat} {ssh : Nat → Int32} {ih th : Nat} {wt : Nat → Nat} {os : Nat → Int64} {wn oc dr tm : Nat} {fa : Int32} {g : Nat → Option am_E} {n m : Nat} : am_gf (n, m, CO kn ks zs ps ce bt rt rl nb nr hsh hst ssh ih th wt os wn oc dr tm fa g) 1 4 4 = some (.int (nI tm)) := rfl
theorem c_tc_4_4 (x : Int32) : am_tc (am_ty 4 4) (.int x) = true := q_tci x
theorem c_pf_4_4 {kn : Nat} {ks zs : Nat → Nat} {ps : Nat → Int32} {ce : Nat → Int64} {bt rt rl : Nat → Nat} {nb nr : Nat} {hsh hst : Nat → Nat} {ssh : Nat → Int32} {ih th : Nat} {wt : Nat → Nat} {os : Nat → Int64} {wn oc dr tm : Nat} {fa : Int32} {g : Nat → Option am_E} {n m : Nat} (z : Nat) : am_pf (n, m, CO kn ks zs ps ce bt rt rl nb nr hsh hst ssh ih th wt os wn oc dr tm fa g) 1 4 4 (.int (nI z)) = some (n, m, CO kn ks zs ps ce bt rt rl nb nr hsh hst ssh ih th wt os wn oc dr (z) fa g) := by
  show some (am_up _ _ _) = _
  refine congrArg some (Prod.ext rfl (Prod.ext rfl (funext fun p => ?_)))
  show (if p = 1 then _ else CO kn ks zs ps ce bt rt rl nb nr hsh hst ssh ih th wt os wn oc dr tm fa g p) = CO kn ks zs ps ce bt rt rl nb nr hsh hst ssh ih th wt os wn oc dr z fa g p
  by_cases hp : p = 1
  · subst hp; rfl
  · rw [if_neg hp]
    unfold CO
    split <;> first | rfl | exact absurd rfl hp
theorem c_gf_4_5 {kn : Nat} {ks zs : Nat → Nat} {ps : Nat → Int32} {ce : Nat → Int64} {bt rt rl : Nat → Nat} {nb nr : Nat} {hsh hst : Nat → Nat} {ssh : Nat → Int32} {ih th : Nat} {wt : Nat → Nat} {os : Nat → Int64} {wn oc dr tm : Nat} {fa : Int32} {g : Nat → Option am_E} {n m : Nat} : am_gf (n, m, CO kn ks zs ps ce bt rt rl nb nr hsh hst ssh ih th wt os wn oc dr tm fa g) 1 4 5 = some (.int fa) := rfl
theorem c_tc_4_5 (x : Int32) : am_tc (am_ty 4 5) (.int x) = true := q_tci x
theorem c_pf_4_5 {kn : Nat} {ks zs : Nat → Nat} {ps : Nat → Int32} {ce : Nat → Int64} {bt rt rl : Nat → Nat} {nb nr : Nat} {hsh hst : Nat → Nat} {ssh : Nat → Int32} {ih th : Nat} {wt : Nat → Nat} {os : Nat → Int64} {wn oc dr tm : Nat} {fa : Int32} {g : Nat → Option am_E} {n m : Nat} (z : Int32) : am_pf (n, m, CO kn ks zs ps ce bt rt rl nb nr hsh hst ssh ih th wt os wn oc dr tm fa g) 1 4 5 (.int z) = some (n, m, CO kn ks zs ps ce bt rt rl nb nr hsh hst ssh ih th wt os wn oc dr tm (z) g) := by
  show some (am_up _ _ _) = _
  refine congrArg some (Prod.ext rfl (Prod.ext rfl (funext fun p => ?_)))
  show (if p = 1 then _ else CO kn ks zs ps ce bt rt rl nb nr hsh hst ssh ih th wt os wn oc dr tm fa g p) = CO kn ks zs ps ce bt rt rl nb nr hsh hst ssh ih th wt os wn oc dr tm z g p
  by_cases hp : p = 1
  · subst hp; rfl
  · rw [if_neg hp]
    unfold CO
    split <;> first | rfl | exact absurd rfl hp
theorem c_cl_4 {kn : Nat} {ks zs : Nat → Nat} {ps : Nat → Int32} {ce : Nat → Int64} {bt rt rl : Nat → Nat} {nb nr : Nat} {hsh hst : Nat → Nat} {ssh : Nat → Int32} {ih th : Nat} {wt : Nat → Nat} {os : Nat → Int64} {wn oc dr tm : Nat} {fa : Int32} {g : Nat → Option am_E} {n m : Nat} : am_cl (n, m, CO kn ks zs ps ce bt rt rl nb nr hsh hst ssh ih th wt os wn oc dr tm fa g) 1 = some 4 := rfl
theorem k_in {k n : Nat} (h : k < n) (hn : n < 2 ^ 31) : ¬ (nI k < 0 ∨ n ≤ (nI k).toNatClampNeg) := nI_in h hn
def upN {α : Type} (f : Nat → α) (k : Nat) (x : α) : Nat → α := fun j => if j = k then x else f j
theorem upN_s {α : Type} (f : Nat → α) (k : Nat) (x : α) : upN f k x k = x := by simp [upN]
theorem upN_n {α : Type} (f : Nat → α) {k j : Nat} (x : α) (h : j ≠ k) : upN f k x j = f j := by simp [upN, h]
theorem upN_i (f : Nat → Nat) (k x : Nat) : upd (fun j => nI (f j)) k (nI x) = fun j => nI (upN f k x j) := by
  funext j
  simp only [upd, upN]
  split <;> rfl
theorem c_g_3 {kn : Nat} {ks zs : Nat → Nat} {ps : Nat → Int32} {ce : Nat → Int64} {bt rt rl : Nat → Nat} {nb nr : Nat} {hsh hst : Nat → Nat} {ssh : Nat → Int32} {ih th : Nat} {wt : Nat → Nat} {os : Nat → Int64} {wn oc dr tm : Nat} {fa : Int32} {g : Nat → Option am_E} {n m : Nat} {k : Nat} (hk : k < 24) : am_gi (n, m, CO kn ks zs ps ce bt rt rl nb nr hsh hst ssh ih th wt os wn oc dr tm fa g) 3 (nI k) = some (nI (ks k)) := by
  show (if nI k < 0 ∨ 24 ≤ (nI k).toNatClampNeg then none else some ((fun j => nI (ks j)) (nI k).toNatClampNeg)) = _
  rw [if_neg (k_in hk (by decide)), nI_clamp (by omega)]
theorem c_ln_3 {kn : Nat} {ks zs : Nat → Nat} {ps : Nat → Int32} {ce : Nat → Int64} {bt rt rl : Nat → Nat} {nb nr : Nat} {hsh hst : Nat → Nat} {ssh : Nat → Int32} {ih th : Nat} {wt : Nat → Nat} {os : Nat → Int64} {wn oc dr tm : Nat} {fa : Int32} {g : Nat → Option am_E} {n m : Nat} : am_ln (n, m, CO kn ks zs ps ce bt rt rl nb nr hsh hst ssh ih th wt os wn oc dr tm fa g) 3 = some 24 := rfl
theorem c_p_3 {kn : Nat} {ks zs : Nat → Nat} {ps : Nat → Int32} {ce : Nat → Int64} {bt rt rl : Nat → Nat} {nb nr : Nat} {hsh hst : Nat → Nat} {ssh : Nat → Int32} {ih th : Nat} {wt : Nat → Nat} {os : Nat → Int64} {wn oc dr tm : Nat} {fa : Int32} {g : Nat → Option am_E} {n m : Nat} {k : Nat} {x : Nat} (hk : k < 24) : am_pi (n, m, CO kn ks zs ps ce bt rt rl nb nr hsh hst ssh ih th wt os wn oc dr tm fa g) 3 (nI k) (nI x) = some (n, m, CO kn (upN ks k x) zs ps ce bt rt rl nb nr hsh hst ssh ih th wt os wn oc dr tm fa g) := by
  show (if 3 = 0 ∨ nI k < 0 ∨ 24 ≤ (nI k).toNatClampNeg then none else some (am_up _ _ _)) = _
  rw [if_neg (fun z => z.elim (by decide) (k_in hk (by decide))), nI_clamp (by omega)]
  refine congrArg some (Prod.ext rfl (Prod.ext rfl (funext fun p => ?_)))
  show (if p = 3 then _ else CO kn ks zs ps ce bt rt rl nb nr hsh hst ssh ih th wt os wn oc dr tm fa g p) = CO kn (upN ks k x) zs ps ce bt rt rl nb nr hsh hst ssh ih th wt os wn oc dr tm fa g p
  by_cases hp : p = 3
  · subst hp; rw [if_pos rfl]; show some (Sum.inl (_, _, Sum.inl (upd (fun j => nI (ks j)) k (nI x)))) = _; rw [upN_i]; rfl
  · rw [if_neg hp]
    unfold CO
    split <;> first | rfl | exact absurd rfl hp
theorem c_g_4 {kn : Nat} {ks zs : Nat → Nat} {ps : Nat → Int32} {ce : Nat → Int64} {bt rt rl : Nat → Nat} {nb nr : Nat} {hsh hst : Nat → Nat} {ssh : Nat → Int32} {ih th : Nat} {wt : Nat → Nat} {os : Nat → Int64} {wn oc dr tm : Nat} {fa : Int32} {g : Nat → Option am_E} {n m : Nat} {k : Nat} (hk : k < 24) : am_gi (n, m, CO kn ks zs ps ce bt rt rl nb nr hsh hst ssh ih th wt os wn oc dr tm fa g) 4 (nI k) = some (nI (zs k)) := by
  show (if nI k < 0 ∨ 24 ≤ (nI k).toNatClampNeg then none else some ((fun j => nI (zs j)) (nI k).toNatClampNeg)) = _
  rw [if_neg (k_in hk (by decide)), nI_clamp (by omega)]
theorem c_ln_4 {kn : Nat} {ks zs : Nat → Nat} {ps : Nat → Int32} {ce : Nat → Int64} {bt rt rl : Nat → Nat} {nb nr : Nat} {hsh hst : Nat → Nat} {ssh : Nat → Int32} {ih th : Nat} {wt : Nat → Nat} {os : Nat → Int64} {wn oc dr tm : Nat} {fa : Int32} {g : Nat → Option am_E} {n m : Nat} : am_ln (n, m, CO kn ks zs ps ce bt rt rl nb nr hsh hst ssh ih th wt os wn oc dr tm fa g) 4 = some 24 := rfl
theorem c_p_4 {kn : Nat} {ks zs : Nat → Nat} {ps : Nat → Int32} {ce : Nat → Int64} {bt rt rl : Nat → Nat} {nb nr : Nat} {hsh hst : Nat → Nat} {ssh : Nat → Int32} {ih th : Nat} {wt : Nat → Nat} {os : Nat → Int64} {wn oc dr tm : Nat} {fa : Int32} {g : Nat → Option am_E} {n m : Nat} {k : Nat} {x : Nat} (hk : k < 24) : am_pi (n, m, CO kn ks zs ps ce bt rt rl nb nr hsh hst ssh ih th wt os wn oc dr tm fa g) 4 (nI k) (nI x) = some (n, m, CO kn ks (upN zs k x) ps ce bt rt rl nb nr hsh hst ssh ih th wt os wn oc dr tm fa g) := by
  show (if 4 = 0 ∨ nI k < 0 ∨ 24 ≤ (nI k).toNatClampNeg then none else some (am_up _ _ _)) = _
  rw [if_neg (fun z => z.elim (by decide) (k_in hk (by decide))), nI_clamp (by omega)]
  refine congrArg some (Prod.ext rfl (Prod.ext rfl (funext fun p => ?_)))
  show (if p = 4 then _ else CO kn ks zs ps ce bt rt rl nb nr hsh hst ssh ih th wt os wn oc dr tm fa g p) = CO kn ks (upN zs k x) ps ce bt rt rl nb nr hsh hst ssh ih th wt os wn oc dr tm fa g p
  by_cases hp : p = 4
  · subst hp; rw [if_pos rfl]; show some (Sum.inl (_, _, Sum.inl (upd (fun j => nI (zs j)) k (nI x)))) = _; rw [upN_i]; rfl
  · rw [if_neg hp]
    unfold CO
    split <;> first | rfl | exact absurd rfl hp
theorem c_g_5 {kn : Nat} {ks zs : Nat → Nat} {ps : Nat → Int32} {ce : Nat → Int64} {bt rt rl : Nat → Nat} {nb nr : Nat} {hsh hst : Nat → Nat} {ssh : Nat → Int32} {ih th : Nat} {wt : Nat → Nat} {os : Nat → Int64} {wn oc dr tm : Nat} {fa : Int32} {g : Nat → Option am_E} {n m : Nat} {k : Nat} (hk : k < 72) : am_gi (n, m, CO kn ks zs ps ce bt rt rl nb nr hsh hst ssh ih th wt os wn oc dr tm fa g) 5 (nI k) = some (ps k) := by
  show (if nI k < 0 ∨ 72 ≤ (nI k).toNatClampNeg then none else some (ps (nI k).toNatClampNeg)) = _
  rw [if_neg (k_in hk (by decide)), nI_clamp (by omega)]
theorem c_ln_5 {kn : Nat} {ks zs : Nat → Nat} {ps : Nat → Int32} {ce : Nat → Int64} {bt rt rl : Nat → Nat} {nb nr : Nat} {hsh hst : Nat → Nat} {ssh : Nat → Int32} {ih th : Nat} {wt : Nat → Nat} {os : Nat → Int64} {wn oc dr tm : Nat} {fa : Int32} {g : Nat → Option am_E} {n m : Nat} : am_ln (n, m, CO kn ks zs ps ce bt rt rl nb nr hsh hst ssh ih th wt os wn oc dr tm fa g) 5 = some 72 := rfl
theorem c_p_5 {kn : Nat} {ks zs : Nat → Nat} {ps : Nat → Int32} {ce : Nat → Int64} {bt rt rl : Nat → Nat} {nb nr : Nat} {hsh hst : Nat → Nat} {ssh : Nat → Int32} {ih th : Nat} {wt : Nat → Nat} {os : Nat → Int64} {wn oc dr tm : Nat} {fa : Int32} {g : Nat → Option am_E} {n m : Nat} {k : Nat} {x : Int32} (hk : k < 72) : am_pi (n, m, CO kn ks zs ps ce bt rt rl nb nr hsh hst ssh ih th wt os wn oc dr tm fa g) 5 (nI k) x = some (n, m, CO kn ks zs (upN ps k x) ce bt rt rl nb nr hsh hst ssh ih th wt os wn oc dr tm fa g) := by
  show (if 5 = 0 ∨ nI k < 0 ∨ 72 ≤ (nI k).toNatClampNeg then none else some (am_up _ _ _)) = _
  rw [if_neg (fun z => z.elim (by decide) (k_in hk (by decide))), nI_clamp (by omega)]
  refine congrArg some (Prod.ext rfl (Prod.ext rfl (funext fun p => ?_)))
  show (if p = 5 then _ else CO kn ks zs ps ce bt rt rl nb nr hsh hst ssh ih th wt os wn oc dr tm fa g p) = CO kn ks zs (upN ps k x) ce bt rt rl nb nr hsh hst ssh ih th wt os wn oc dr tm fa g p
  by_cases hp : p = 5
  · subst hp; rw [if_pos rfl]; rfl
  · rw [if_neg hp]
    unfold CO
    split <;> first | rfl | exact absurd rfl hp
theorem c_g_7 {kn : Nat} {ks zs : Nat → Nat} {ps : Nat → Int32} {ce : Nat → Int64} {bt rt rl : Nat → Nat} {nb nr : Nat} {hsh hst : Nat → Nat} {ssh : Nat → Int32} {ih th : Nat} {wt : Nat → Nat} {os : Nat → Int64} {wn oc dr tm : Nat} {fa : Int32} {g : Nat → Option am_E} {n m : Nat} {k : Nat} (hk : k < 2720) : am_gl (n, m, CO kn ks zs ps ce bt rt rl nb nr hsh hst ssh ih th wt os wn oc dr tm fa g) 7 (nI k) = some (ce k) := by
  show (if nI k < 0 ∨ 2720 ≤ (nI k).toNatClampNeg then none else some (ce (nI k).toNatClampNeg)) = _
  rw [if_neg (k_in hk (by decide)), nI_clamp (by omega)]
theorem c_ln_7 {kn : Nat} {ks zs : Nat → Nat} {ps : Nat → Int32} {ce : Nat → Int64} {bt rt rl : Nat → Nat} {nb nr : Nat} {hsh hst : Nat → Nat} {ssh : Nat → Int32} {ih th : Nat} {wt : Nat → Nat} {os : Nat → Int64} {wn oc dr tm : Nat} {fa : Int32} {g : Nat → Option am_E} {n m : Nat} : am_ln (n, m, CO kn ks zs ps ce bt rt rl nb nr hsh hst ssh ih th wt os wn oc dr tm fa g) 7 = some 2720 := rfl
theorem c_p_7 {kn : Nat} {ks zs : Nat → Nat} {ps : Nat → Int32} {ce : Nat → Int64} {bt rt rl : Nat → Nat} {nb nr : Nat} {hsh hst : Nat → Nat} {ssh : Nat → Int32} {ih th : Nat} {wt : Nat → Nat} {os : Nat → Int64} {wn oc dr tm : Nat} {fa : Int32} {g : Nat → Option am_E} {n m : Nat} {k : Nat} {x : Int64} (hk : k < 2720) : am_pl (n, m, CO kn ks zs ps ce bt rt rl nb nr hsh hst ssh ih th wt os wn oc dr tm fa g) 7 (nI k) x = some (n, m, CO kn ks zs ps (upN ce k x) bt rt rl nb nr hsh hst ssh ih th wt os wn oc dr tm fa g) := by
  show (if 7 = 0 ∨ nI k < 0 ∨ 2720 ≤ (nI k).toNatClampNeg then none else some (am_up _ _ _)) = _
  rw [if_neg (fun z => z.elim (by decide) (k_in hk (by decide))), nI_clamp (by omega)]
  refine congrArg some (Prod.ext rfl (Prod.ext rfl (funext fun p => ?_)))
  show (if p = 7 then _ else CO kn ks zs ps ce bt rt rl nb nr hsh hst ssh ih th wt os wn oc dr tm fa g p) = CO kn ks zs ps (upN ce k x) bt rt rl nb nr hsh hst ssh ih th wt os wn oc dr tm fa g p
  by_cases hp : p = 7
  · subst hp; rw [if_pos rfl]; rfl
  · rw [if_neg hp]
    unfold CO
    split <;> first | rfl | exact absurd rfl hp
theorem c_g_8 {kn : Nat} {ks zs : Nat → Nat} {ps : Nat → Int32} {ce : Nat → Int64} {bt rt rl : Nat → Nat} {nb nr : Nat} {hsh hst : Nat → Nat} {ssh : Nat → Int32} {ih th : Nat} {wt : Nat → Nat} {os : Nat → Int64} {wn oc dr tm : Nat} {fa : Int32} {g : Nat → Option am_E} {n m : Nat} {k : Nat} (hk : k < 60) : am_gz (n, m, CO kn ks zs ps ce bt rt rl nb nr hsh hst ssh ih th wt os wn oc dr tm fa g) 8 (nI k) = some (nI (bt k)) := by
  show (if nI k < 0 ∨ 60 ≤ (nI k).toNatClampNeg then none else some ((fun j => nI (bt j)) (nI k).toNatClampNeg)) = _
  rw [if_neg (k_in hk (by decide)), nI_clamp (by omega)]
theorem c_ln_8 {kn : Nat} {ks zs : Nat → Nat} {ps : Nat → Int32} {ce : Nat → Int64} {bt rt rl : Nat → Nat} {nb nr : Nat} {hsh hst : Nat → Nat} {ssh : Nat → Int32} {ih th : Nat} {wt : Nat → Nat} {os : Nat → Int64} {wn oc dr tm : Nat} {fa : Int32} {g : Nat → Option am_E} {n m : Nat} : am_ln (n, m, CO kn ks zs ps ce bt rt rl nb nr hsh hst ssh ih th wt os wn oc dr tm fa g) 8 = some 60 := rfl
theorem c_p_8 {kn : Nat} {ks zs : Nat → Nat} {ps : Nat → Int32} {ce : Nat → Int64} {bt rt rl : Nat → Nat} {nb nr : Nat} {hsh hst : Nat → Nat} {ssh : Nat → Int32} {ih th : Nat} {wt : Nat → Nat} {os : Nat → Int64} {wn oc dr tm : Nat} {fa : Int32} {g : Nat → Option am_E} {n m : Nat} {k : Nat} {x : Nat} (hk : k < 60) (hx : nI x = 0 ∨ nI x = 1) : am_pz (n, m, CO kn ks zs ps ce bt rt rl nb nr hsh hst ssh ih th wt os wn oc dr tm fa g) 8 (nI k) (nI x) = some (n, m, CO kn ks zs ps ce (upN bt k x) rt rl nb nr hsh hst ssh ih th wt os wn oc dr tm fa g) := by
  show (if (8 = 0 ∨ nI k < 0 ∨ 60 ≤ (nI k).toNatClampNeg) ∨ ¬ ((nI x) = 0 ∨ (nI x) = 1) then none else some (am_up _ _ _)) = _
  rw [if_neg (fun z => z.elim (fun z => z.elim (by decide) (k_in hk (by decide))) (fun q => q hx)), nI_clamp (by omega)]
  refine congrArg some (Prod.ext rfl (Prod.ext rfl (funext fun p => ?_)))
  show (if p = 8 then _ else CO kn ks zs ps ce bt rt rl nb nr hsh hst ssh ih th wt os wn oc dr tm fa g p) = CO kn ks zs ps ce (upN bt k x) rt rl nb nr hsh hst ssh ih th wt os wn oc dr tm fa g p
  by_cases hp : p = 8
  · subst hp; rw [if_pos rfl]; show some (Sum.inl (_, _, Sum.inl (upd (fun j => nI (bt j)) k (nI x)))) = _; rw [upN_i]; rfl
  · rw [if_neg hp]
    unfold CO
    split <;> first | rfl | exact absurd rfl hp
theorem c_g_9 {kn : Nat} {ks zs : Nat → Nat} {ps : Nat → Int32} {ce : Nat → Int64} {bt rt rl : Nat → Nat} {nb nr : Nat} {hsh hst : Nat → Nat} {ssh : Nat → Int32} {ih th : Nat} {wt : Nat → Nat} {os : Nat → Int64} {wn oc dr tm : Nat} {fa : Int32} {g : Nat → Option am_E} {n m : Nat} {k : Nat} (hk : k < 20) : am_gz (n, m, CO kn ks zs ps ce bt rt rl nb nr hsh hst ssh ih th wt os wn oc dr tm fa g) 9 (nI k) = some (nI (rt k)) := by
  show (if nI k < 0 ∨ 20 ≤ (nI k).toNatClampNeg then none else some ((fun j => nI (rt j)) (nI k).toNatClampNeg)) = _
  rw [if_neg (k_in hk (by decide)), nI_clamp (by omega)]
theorem c_ln_9 {kn : Nat} {ks zs : Nat → Nat} {ps : Nat → Int32} {ce : Nat → Int64} {bt rt rl : Nat → Nat} {nb nr : Nat} {hsh hst : Nat → Nat} {ssh : Nat → Int32} {ih th : Nat} {wt : Nat → Nat} {os : Nat → Int64} {wn oc dr tm : Nat} {fa : Int32} {g : Nat → Option am_E} {n m : Nat} : am_ln (n, m, CO kn ks zs ps ce bt rt rl nb nr hsh hst ssh ih th wt os wn oc dr tm fa g) 9 = some 20 := rfl
theorem c_p_9 {kn : Nat} {ks zs : Nat → Nat} {ps : Nat → Int32} {ce : Nat → Int64} {bt rt rl : Nat → Nat} {nb nr : Nat} {hsh hst : Nat → Nat} {ssh : Nat → Int32} {ih th : Nat} {wt : Nat → Nat} {os : Nat → Int64} {wn oc dr tm : Nat} {fa : Int32} {g : Nat → Option am_E} {n m : Nat} {k : Nat} {x : Nat} (hk : k < 20) (hx : nI x = 0 ∨ nI x = 1) : am_pz (n, m, CO kn ks zs ps ce bt rt rl nb nr hsh hst ssh ih th wt os wn oc dr tm fa g) 9 (nI k) (nI x) = some (n, m, CO kn ks zs ps ce bt (upN rt k x) rl nb nr hsh hst ssh ih th wt os wn oc dr tm fa g) := by
  show (if (9 = 0 ∨ nI k < 0 ∨ 20 ≤ (nI k).toNatClampNeg) ∨ ¬ ((nI x) = 0 ∨ (nI x) = 1) then none else some (am_up _ _ _)) = _
  rw [if_neg (fun z => z.elim (fun z => z.elim (by decide) (k_in hk (by decide))) (fun q => q hx)), nI_clamp (by omega)]
  refine congrArg some (Prod.ext rfl (Prod.ext rfl (funext fun p => ?_)))
  show (if p = 9 then _ else CO kn ks zs ps ce bt rt rl nb nr hsh hst ssh ih th wt os wn oc dr tm fa g p) = CO kn ks zs ps ce bt (upN rt k x) rl nb nr hsh hst ssh ih th wt os wn oc dr tm fa g p
  by_cases hp : p = 9
  · subst hp; rw [if_pos rfl]; show some (Sum.inl (_, _, Sum.inl (upd (fun j => nI (rt j)) k (nI x)))) = _; rw [upN_i]; rfl
  · rw [if_neg hp]
    unfold CO
    split <;> first | rfl | exact absurd rfl hp
theorem c_g_10 {kn : Nat} {ks zs : Nat → Nat} {ps : Nat → Int32} {ce : Nat → Int64} {bt rt rl : Nat → Nat} {nb nr : Nat} {hsh hst : Nat → Nat} {ssh : Nat → Int32} {ih th : Nat} {wt : Nat → Nat} {os : Nat → Int64} {wn oc dr tm : Nat} {fa : Int32} {g : Nat → Option am_E} {n m : Nat} {k : Nat} (hk : k < 20) : am_gi (n, m, CO kn ks zs ps ce bt rt rl nb nr hsh hst ssh ih th wt os wn oc dr tm fa g) 10 (nI k) = some (nI (rl k)) := by
  show (if nI k < 0 ∨ 20 ≤ (nI k).toNatClampNeg then none else some ((fun j => nI (rl j)) (nI k).toNatClampNeg)) = _
  rw [if_neg (k_in hk (by decide)), nI_clamp (by omega)]
theorem c_ln_10 {kn : Nat} {ks zs : Nat → Nat} {ps : Nat → Int32} {ce : Nat → Int64} {bt rt rl : Nat → Nat} {nb nr : Nat} {hsh hst : Nat → Nat} {ssh : Nat → Int32} {ih th : Nat} {wt : Nat → Nat} {os : Nat → Int64} {wn oc dr tm : Nat} {fa : Int32} {g : Nat → Option am_E} {n m : Nat} : am_ln (n, m, CO kn ks zs ps ce bt rt rl nb nr hsh hst ssh ih th wt os wn oc dr tm fa g) 10 = some 20 := rfl
theorem c_p_10 {kn : Nat} {ks zs : Nat → Nat} {ps : Nat → Int32} {ce : Nat → Int64} {bt rt rl : Nat → Nat} {nb nr : Nat} {hsh hst : Nat → Nat} {ssh : Nat → Int32} {ih th : Nat} {wt : Nat → Nat} {os : Nat → Int64} {wn oc dr tm : Nat} {fa : Int32} {g : Nat → Option am_E} {n m : Nat} {k : Nat} {x : Nat} (hk : k < 20) : am_pi (n, m, CO kn ks zs ps ce bt rt rl nb nr hsh hst ssh ih th wt os wn oc dr tm fa g) 10 (nI k) (nI x) = some (n, m, CO kn ks zs ps ce bt rt (upN rl k x) nb nr hsh hst ssh ih th wt os wn oc dr tm fa g) := by
  show (if 10 = 0 ∨ nI k < 0 ∨ 20 ≤ (nI k).toNatClampNeg then none else some (am_up _ _ _)) = _
  rw [if_neg (fun z => z.elim (by decide) (k_in hk (by decide))), nI_clamp (by omega)]
  refine congrArg some (Prod.ext rfl (Prod.ext rfl (funext fun p => ?_)))
  show (if p = 10 then _ else CO kn ks zs ps ce bt rt rl nb nr hsh hst ssh ih th wt os wn oc dr tm fa g p) = CO kn ks zs ps ce bt rt (upN rl k x) nb nr hsh hst ssh ih th wt os wn oc dr tm fa g p
  by_cases hp : p = 10
  · subst hp; rw [if_pos rfl]; show some (Sum.inl (_, _, Sum.inl (upd (fun j => nI (rl j)) k (nI x)))) = _; rw [upN_i]; rfl
  · rw [if_neg hp]
    unfold CO
    split <;> first | rfl | exact absurd rfl hp
theorem c_g_12 {kn : Nat} {ks zs : Nat → Nat} {ps : Nat → Int32} {ce : Nat → Int64} {bt rt rl : Nat → Nat} {nb nr : Nat} {hsh hst : Nat → Nat} {ssh : Nat → Int32} {ih th : Nat} {wt : Nat → Nat} {os : Nat → Int64} {wn oc dr tm : Nat} {fa : Int32} {g : Nat → Option am_E} {n m : Nat} {k : Nat} (hk : k < 24) : am_gi (n, m, CO kn ks zs ps ce bt rt rl nb nr hsh hst ssh ih th wt os wn oc dr tm fa g) 12 (nI k) = some (nI (hsh k)) := by
  show (if nI k < 0 ∨ 24 ≤ (nI k).toNatClampNeg then none else some ((fun j => nI (hsh j)) (nI k).toNatClampNeg)) = _
  rw [if_neg (k_in hk (by decide)), nI_clamp (by omega)]
theorem c_ln_12 {kn : Nat} {ks zs : Nat → Nat} {ps : Nat → Int32} {ce : Nat → Int64} {bt rt rl : Nat → Nat} {nb nr : Nat} {hsh hst : Nat → Nat} {ssh : Nat → Int32} {ih th : Nat} {wt : Nat → Nat} {os : Nat → Int64} {wn oc dr tm : Nat} {fa : Int32} {g : Nat → Option am_E} {n m : Nat} : am_ln (n, m, CO kn ks zs ps ce bt rt rl nb nr hsh hst ssh ih th wt os wn oc dr tm fa g) 12 = some 24 := rfl
theorem c_p_12 {kn : Nat} {ks zs : Nat → Nat} {ps : Nat → Int32} {ce : Nat → Int64} {bt rt rl : Nat → Nat} {nb nr : Nat} {hsh hst : Nat → Nat} {ssh : Nat → Int32} {ih th : Nat} {wt : Nat → Nat} {os : Nat → Int64} {wn oc dr tm : Nat} {fa : Int32} {g : Nat → Option am_E} {n m : Nat} {k : Nat} {x : Nat} (hk : k < 24) : am_pi (n, m, CO kn ks zs ps ce bt rt rl nb nr hsh hst ssh ih th wt os wn oc dr tm fa g) 12 (nI k) (nI x) = some (n, m, CO kn ks zs ps ce bt rt rl nb nr (upN hsh k x) hst ssh ih th wt os wn oc dr tm fa g) := by
  show (if 12 = 0 ∨ nI k < 0 ∨ 24 ≤ (nI k).toNatClampNeg then none else some (am_up _ _ _)) = _
  rw [if_neg (fun z => z.elim (by decide) (k_in hk (by decide))), nI_clamp (by omega)]
  refine congrArg some (Prod.ext rfl (Prod.ext rfl (funext fun p => ?_)))
  show (if p = 12 then _ else CO kn ks zs ps ce bt rt rl nb nr hsh hst ssh ih th wt os wn oc dr tm fa g p) = CO kn ks zs ps ce bt rt rl nb nr (upN hsh k x) hst ssh ih th wt os wn oc dr tm fa g p
  by_cases hp : p = 12
  · subst hp; rw [if_pos rfl]; show some (Sum.inl (_, _, Sum.inl (upd (fun j => nI (hsh j)) k (nI x)))) = _; rw [upN_i]; rfl
  · rw [if_neg hp]
    unfold CO
    split <;> first | rfl | exact absurd rfl hp
theorem c_g_13 {kn : Nat} {ks zs : Nat → Nat} {ps : Nat → Int32} {ce : Nat → Int64} {bt rt rl : Nat → Nat} {nb nr : Nat} {hsh hst : Nat → Nat} {ssh : Nat → Int32} {ih th : Nat} {wt : Nat → Nat} {os : Nat → Int64} {wn oc dr tm : Nat} {fa : Int32} {g : Nat → Option am_E} {n m : Nat} {k : Nat} (hk : k < 12) : am_gi (n, m, CO kn ks zs ps ce bt rt rl nb nr hsh hst ssh ih th wt os wn oc dr tm fa g) 13 (nI k) = some (nI (hst k)) := by
  show (if nI k < 0 ∨ 12 ≤ (nI k).toNatClampNeg then none else some ((fun j => nI (hst j)) (nI k).toNatClampNeg)) = _
  rw [if_neg (k_in hk (by decide)), nI_clamp (by omega)]
theorem c_ln_13 {kn : Nat} {ks zs : Nat → Nat} {ps : Nat → Int32} {ce : Nat → Int64} {bt rt rl : Nat → Nat} {nb nr : Nat} {hsh hst : Nat → Nat} {ssh : Nat → Int32} {ih th : Nat} {wt : Nat → Nat} {os : Nat → Int64} {wn oc dr tm : Nat} {fa : Int32} {g : Nat → Option am_E} {n m : Nat} : am_ln (n, m, CO kn ks zs ps ce bt rt rl nb nr hsh hst ssh ih th wt os wn oc dr tm fa g) 13 = some 12 := rfl
theorem c_p_13 {kn : Nat} {ks zs : Nat → Nat} {ps : Nat → Int32} {ce : Nat → Int64} {bt rt rl : Nat → Nat} {nb nr : Nat} {hsh hst : Nat → Nat} {ssh : Nat → Int32} {ih th : Nat} {wt : Nat → Nat} {os : Nat → Int64} {wn oc dr tm : Nat} {fa : Int32} {g : Nat → Option am_E} {n m : Nat} {k : Nat} {x : Nat} (hk : k < 12) : am_pi (n, m, CO kn ks zs ps ce bt rt rl nb nr hsh hst ssh ih th wt os wn oc dr tm fa g) 13 (nI k) (nI x) = some (n, m, CO kn ks zs ps ce bt rt rl nb nr hsh (upN hst k x) ssh ih th wt os wn oc dr tm fa g) := by
  show (if 13 = 0 ∨ nI k < 0 ∨ 12 ≤ (nI k).toNatClampNeg then none else some (am_up _ _ _)) = _
  rw [if_neg (fun z => z.elim (by decide) (k_in hk (by decide))), nI_clamp (by omega)]
  refine congrArg some (Prod.ext rfl (Prod.ext rfl (funext fun p => ?_)))
  show (if p = 13 then _ else CO kn ks zs ps ce bt rt rl nb nr hsh hst ssh ih th wt os wn oc dr tm fa g p) = CO kn ks zs ps ce bt rt rl nb nr hsh (upN hst k x) ssh ih th wt os wn oc dr tm fa g p
  by_cases hp : p = 13
  · subst hp; rw [if_pos rfl]; show some (Sum.inl (_, _, Sum.inl (upd (fun j => nI (hst j)) k (nI x)))) = _; rw [upN_i]; rfl
  · rw [if_neg hp]
    unfold CO
    split <;> first | rfl | exact absurd rfl hp
theorem c_g_14 {kn : Nat} {ks zs : Nat → Nat} {ps : Nat → Int32} {ce : Nat → Int64} {bt rt rl : Nat → Nat} {nb nr : Nat} {hsh hst : Nat → Nat} {ssh : Nat → Int32} {ih th : Nat} {wt : Nat → Nat} {os : Nat → Int64} {wn oc dr tm : Nat} {fa : Int32} {g : Nat → Option am_E} {n m : Nat} {k : Nat} (hk : k < 96) : am_gi (n, m, CO kn ks zs ps ce bt rt rl nb nr hsh hst ssh ih th wt os wn oc dr tm fa g) 14 (nI k) = some (ssh k) := by
  show (if nI k < 0 ∨ 96 ≤ (nI k).toNatClampNeg then none else some (ssh (nI k).toNatClampNeg)) = _
  rw [if_neg (k_in hk (by decide)), nI_clamp (by omega)]
theorem c_ln_14 {kn : Nat} {ks zs : Nat → Nat} {ps : Nat → Int32} {ce : Nat → Int64} {bt rt rl : Nat → Nat} {nb nr : Nat} {hsh hst : Nat → Nat} {ssh : Nat → Int32} {ih th : Nat} {wt : Nat → Nat} {os : Nat → Int64} {wn oc dr tm : Nat} {fa : Int32} {g : Nat → Option am_E} {n m : Nat} : am_ln (n, m, CO kn ks zs ps ce bt rt rl nb nr hsh hst ssh ih th wt os wn oc dr tm fa g) 14 = some 96 := rfl
theorem c_p_14 {kn : Nat} {ks zs : Nat → Nat} {ps : Nat → Int32} {ce : Nat → Int64} {bt rt rl : Nat → Nat} {nb nr : Nat} {hsh hst : Nat → Nat} {ssh : Nat → Int32} {ih th : Nat} {wt : Nat → Nat} {os : Nat → Int64} {wn oc dr tm : Nat} {fa : Int32} {g : Nat → Option am_E} {n m : Nat} {k : Nat} {x : Int32} (hk : k < 96) : am_pi (n, m, CO kn ks zs ps ce bt rt rl nb nr hsh hst ssh ih th wt os wn oc dr tm fa g) 14 (nI k) x = some (n, m, CO kn ks zs ps ce bt rt rl nb nr hsh hst (upN ssh k x) ih th wt os wn oc dr tm fa g) := by
  show (if 14 = 0 ∨ nI k < 0 ∨ 96 ≤ (nI k).toNatClampNeg then none else some (am_up _ _ _)) = _
  rw [if_neg (fun z => z.elim (by decide) (k_in hk (by decide))), nI_clamp (by omega)]
  refine congrArg some (Prod.ext rfl (Prod.ext rfl (funext fun p => ?_)))
  show (if p = 14 then _ else CO kn ks zs ps ce bt rt rl nb nr hsh hst ssh ih th wt os wn oc dr tm fa g p) = CO kn ks zs ps ce bt rt rl nb nr hsh hst (upN ssh k x) ih th wt os wn oc dr tm fa g p
  by_cases hp : p = 14
  · subst hp; rw [if_pos rfl]; rfl
  · rw [if_neg hp]
    unfold CO
    split <;> first | rfl | exact absurd rfl hp
theorem c_g_16 {kn : Nat} {ks zs : Nat → Nat} {ps : Nat → Int32} {ce : Nat → Int64} {bt rt rl : Nat → Nat} {nb nr : Nat} {hsh hst : Nat → Nat} {ssh : Nat → Int32} {ih th : Nat} {wt : Nat → Nat} {os : Nat → Int64} {wn oc dr tm : Nat} {fa : Int32} {g : Nat → Option am_E} {n m : Nat} {k : Nat} (hk : k < 808) : am_gi (n, m, CO kn ks zs ps ce bt rt rl nb nr hsh hst ssh ih th wt os wn oc dr tm fa g) 16 (nI k) = some (nI (wt k)) := by
  show (if nI k < 0 ∨ 808 ≤ (nI k).toNatClampNeg then none else some ((fun j => nI (wt j)) (nI k).toNatClampNeg)) = _
  rw [if_neg (k_in hk (by decide)), nI_clamp (by omega)]
theorem c_ln_16 {kn : Nat} {ks zs : Nat → Nat} {ps : Nat → Int32} {ce : Nat → Int64} {bt rt rl : Nat → Nat} {nb nr : Nat} {hsh hst : Nat → Nat} {ssh : Nat → Int32} {ih th : Nat} {wt : Nat → Nat} {os : Nat → Int64} {wn oc dr tm : Nat} {fa : Int32} {g : Nat → Option am_E} {n m : Nat} : am_ln (n, m, CO kn ks zs ps ce bt rt rl nb nr hsh hst ssh ih th wt os wn oc dr tm fa g) 16 = some 808 := rfl
theorem c_p_16 {kn : Nat} {ks zs : Nat → Nat} {ps : Nat → Int32} {ce : Nat → Int64} {bt rt rl : Nat → Nat} {nb nr : Nat} {hsh hst : Nat → Nat} {ssh : Nat → Int32} {ih th : Nat} {wt : Nat → Nat} {os : Nat → Int64} {wn oc dr tm : Nat} {fa : Int32} {g : Nat → Option am_E} {n m : Nat} {k : Nat} {x : Nat} (hk : k < 808) : am_pi (n, m, CO kn ks zs ps ce bt rt rl nb nr hsh hst ssh ih th wt os wn oc dr tm fa g) 16 (nI k) (nI x) = some (n, m, CO kn ks zs ps ce bt rt rl nb nr hsh hst ssh ih th (upN wt k x) os wn oc dr tm fa g) := by
  show (if 16 = 0 ∨ nI k < 0 ∨ 808 ≤ (nI k).toNatClampNeg then none else some (am_up _ _ _)) = _
  rw [if_neg (fun z => z.elim (by decide) (k_in hk (by decide))), nI_clamp (by omega)]
  refine congrArg some (Prod.ext rfl (Prod.ext rfl (funext fun p => ?_)))
  show (if p = 16 then _ else CO kn ks zs ps ce bt rt rl nb nr hsh hst ssh ih th wt os wn oc dr tm fa g p) = CO kn ks zs ps ce bt rt rl nb nr hsh hst ssh ih th (upN wt k x) os wn oc dr tm fa g p
  by_cases hp : p = 16
  · subst hp; rw [if_pos rfl]; show some (Sum.inl (_, _, Sum.inl (upd (fun j => nI (wt j)) k (nI x)))) = _; rw [upN_i]; rfl
  · rw [if_neg hp]
    unfold CO
    split <;> first | rfl | exact absurd rfl hp
theorem c_g_17 {kn : Nat} {ks zs : Nat → Nat} {ps : Nat → Int32} {ce : Nat → Int64} {bt rt rl : Nat → Nat} {nb nr : Nat} {hsh hst : Nat → Nat} {ssh : Nat → Int32} {ih th : Nat} {wt : Nat → Nat} {os : Nat → Int64} {wn oc dr tm : Nat} {fa : Int32} {g : Nat → Option am_E} {n m : Nat} {k : Nat} (hk : k < 400) : am_gl (n, m, CO kn ks zs ps ce bt rt rl nb nr hsh hst ssh ih th wt os wn oc dr tm fa g) 17 (nI k) = some (os k) := by
  show (if nI k < 0 ∨ 400 ≤ (nI k).toNatClampNeg then none else some (os (nI k).toNatClampNeg)) = _
  rw [if_neg (k_in hk (by decide)), nI_clamp (by omega)]
theorem c_ln_17 {kn : Nat} {ks zs : Nat → Nat} {ps : Nat → Int32} {ce : Nat → Int64} {bt rt rl : Nat → Nat} {nb nr : Nat} {hsh hst : Nat → Nat} {ssh : Nat → Int32} {ih th : Nat} {wt : Nat → Nat} {os : Nat → Int64} {wn oc dr tm : Nat} {fa : Int32} {g : Nat → Option am_E} {n m : Nat} : am_ln (n, m, CO kn ks zs ps ce bt rt rl nb nr hsh hst ssh ih th wt os wn oc dr tm fa g) 17 = some 400 := rfl
theorem c_p_17 {kn : Nat} {ks zs : Nat → Nat} {ps : Nat → Int32} {ce : Nat → Int64} {bt rt rl : Nat → Nat} {nb nr : Nat} {hsh hst : Nat → Nat} {ssh : Nat → Int32} {ih th : Nat} {wt : Nat → Nat} {os : Nat → Int64} {wn oc dr tm : Nat} {fa : Int32} {g : Nat → Option am_E} {n m : Nat} {k : Nat} {x : Int64} (hk : k < 400) : am_pl (n, m, CO kn ks zs ps ce bt rt rl nb nr hsh hst ssh ih th wt os wn oc dr tm fa g) 17 (nI k) x = some (n, m, CO kn ks zs ps ce bt rt rl nb nr hsh hst ssh ih th wt (upN os k x) wn oc dr tm fa g) := by
  show (if 17 = 0 ∨ nI k < 0 ∨ 400 ≤ (nI k).toNatClampNeg then none else some (am_up _ _ _)) = _
  rw [if_neg (fun z => z.elim (by decide) (k_in hk (by decide))), nI_clamp (by omega)]
  refine congrArg some (Prod.ext rfl (Prod.ext rfl (funext fun p => ?_)))
  show (if p = 17 then _ else CO kn ks zs ps ce bt rt rl nb nr hsh hst ssh ih th wt os wn oc dr tm fa g p) = CO kn ks zs ps ce bt rt rl nb nr hsh hst ssh ih th wt (upN os k x) wn oc dr tm fa g p
  by_cases hp : p = 17
  · subst hp; rw [if_pos rfl]; rfl
  · rw [if_neg hp]
    unfold CO
    split <;> first | rfl | exact absurd rfl hp
theorem c_cy {kn : Nat} {ks zs : Nat → Nat} {ps : Nat → Int32} {ce : Nat → Int64} {bt rt rl : Nat → Nat} {nb nr : Nat} {hsh hst : Nat → Nat} {ssh : Nat → Int32} {ih th : Nat} {wt : Nat → Nat} {os : Nat → Int64} {wn oc dr tm : Nat} {fa : Int32} {g : Nat → Option am_E} {n m : Nat} {a b z : Nat} (ha : a + z ≤ 2720) (hb : b + z ≤ 2720) : am_cy (n, m, CO kn ks zs ps ce bt rt rl nb nr hsh hst ssh ih th wt os wn oc dr tm fa g) 7 (nI a) (nI b) (nI z) = some (n, m, CO kn ks zs ps (va_cpy ce ce a b z) bt rt rl nb nr hsh hst ssh ih th wt os wn oc dr tm fa g) := by
  show (if 7 = 0 ∨ nI a < 0 ∨ nI b < 0 ∨ nI z < 0 ∨ 2720 < (nI a).toNatClampNeg + (nI z).toNatClampNeg ∨ 2720 < (nI b).toNatClampNeg + (nI z).toNatClampNeg then none else some (am_up _ _ _)) = _
  rw [if_neg, nI_clamp (by omega), nI_clamp (by omega), nI_clamp (by omega)]
  · refine congrArg some (Prod.ext rfl (Prod.ext rfl (funext fun p => ?_)))
    show (if p = 7 then _ else CO kn ks zs ps ce bt rt rl nb nr hsh hst ssh ih th wt os wn oc dr tm fa g p) = CO kn ks zs ps (va_cpy ce ce a b z) bt rt rl nb nr hsh hst ssh ih th wt os wn oc dr tm fa g p
    by_cases hp : p = 7
    · subst hp; rfl
    · rw [if_neg hp]
      unfold CO
      split <;> first | rfl | exact absurd rfl hp
  · rw [nI_clamp (by omega), nI_clamp (by omega), nI_clamp (by omega)]
    have h1 := nI_pos (n := a) (by omega)
    have h2 := nI_pos (n := b) (by omega)
    have h3 := nI_pos (n := z) (by omega)
    rintro (q | q | q | q | q | q)
    · cases q
    · exact h1 q
    · exact h2 q
    · exact h3 q
    · omega
    · omega
