/-! The reference's grow(): three new arrays, behind all places. -/
theorem ovl_bg {q1 q2 q3 a b c : Nat} {x y z A B C : Option am_E} {f : Nat → Option am_E} (h : ∀ p, (p = a ∨ p = b ∨ p = c) → p ≠ q1 ∧ p ≠ q2 ∧ p ≠ q3) : ∀ p, (p = a ∨ p = b ∨ p = c) → ovl q1 q2 q3 x y z (ovl a b c A B C f) p = ovl a b c A B C f p := fun p hp => ovl_at (h p hp)
/-- places behind all others -/
def NQ (n q1 q2 q3 : Nat) : Prop := 28 ≤ n ∧ q1 ≤ n ∧ q2 ≤ n ∧ q3 ≤ n
theorem RF_bg {sh : Nat} {kd kz : Nat → Nat} {ko : Nat → Int32} {q1 q2 q3 cp : Nat} {so ki : Nat → Nat} {nu : Nat → Int64} {no sp : Nat} {hn sl ah : Nat → Nat} {he fr : Nat} {ou : Nat → Int64} {tol bx rws ma dpd isl inn atk : Nat} {g : Nat → Option am_E} {p : Nat} (hp : 28 < p) : RF sh kd kz ko q1 q2 q3 cp so ki nu no sp hn sl ah he fr ou tol bx rws ma dpd isl inn atk g p = g p := by
  unfold RF
  split <;> first | omega | rfl
theorem RF_cg {sh : Nat} {kd kz : Nat → Nat} {ko : Nat → Int32} {q1 q2 q3 cp : Nat} {so ki : Nat → Nat} {nu : Nat → Int64} {no sp : Nat} {hn sl ah : Nat → Nat} {he fr : Nat} {ou : Nat → Int64} {tol bx rws ma dpd isl inn atk : Nat} {g g2 : Nat → Option am_E} {p : Nat} (h : g p = g2 p) : RF sh kd kz ko q1 q2 q3 cp so ki nu no sp hn sl ah he fr ou tol bx rws ma dpd isl inn atk g p = RF sh kd kz ko q1 q2 q3 cp so ki nu no sp hn sl ah he fr ou tol bx rws ma dpd isl inn atk g2 p := by
  unfold RF
  split <;> first | rfl | exact h
theorem RO_bg {sh : Nat} {kd kz : Nat → Nat} {ko : Nat → Int32} {q1 q2 q3 cp : Nat} {so ki : Nat → Nat} {nu : Nat → Int64} {no sp : Nat} {hn sl ah : Nat → Nat} {he fr : Nat} {ou : Nat → Int64} {tol bx rws ma dpd isl inn atk : Nat} {g : Nat → Option am_E} {n p : Nat} (hN : NQ n q1 q2 q3) (hp : n < p) : RO sh kd kz ko q1 q2 q3 cp so ki nu no sp hn sl ah he fr ou tol bx rws ma dpd isl inn atk g p = g p := by
  obtain ⟨h1, h2, h3, h4⟩ := hN
  unfold RO
  rw [ovl_at ⟨by omega, by omega, by omega⟩, RF_bg (by omega)]
/-- a background place is written -/
theorem RO_bgu {sh : Nat} {kd kz : Nat → Nat} {ko : Nat → Int32} {q1 q2 q3 cp : Nat} {so ki : Nat → Nat} {nu : Nat → Int64} {no sp : Nat} {hn sl ah : Nat → Nat} {he fr : Nat} {ou : Nat → Int64} {tol bx rws ma dpd isl inn atk : Nat} {g : Nat → Option am_E} {n p : Nat} {e : am_E} (hN : NQ n q1 q2 q3) (hp : n < p) : (fun k => if k = p then some e else RO sh kd kz ko q1 q2 q3 cp so ki nu no sp hn sl ah he fr ou tol bx rws ma dpd isl inn atk g k) = RO sh kd kz ko q1 q2 q3 cp so ki nu no sp hn sl ah he fr ou tol bx rws ma dpd isl inn atk (upN g p (some e)) := by
  obtain ⟨h1, h2, h3, h4⟩ := hN
  funext k
  by_cases hk : k = p
  · subst hk
    rw [if_pos rfl, RO_bg ⟨h1, h2, h3, h4⟩ hp, upN_s]
  · rw [if_neg hk]
    simp only [RO, ovl]
    rw [RF_cg (g2 := upN g p (some e)) (by rw [upN_n _ _ hk])]
theorem b_gi {sh : Nat} {kd kz : Nat → Nat} {ko : Nat → Int32} {q1 q2 q3 cp : Nat} {so ki : Nat → Nat} {nu : Nat → Int64} {no sp : Nat} {hn sl ah : Nat → Nat} {he fr : Nat} {ou : Nat → Int64} {tol bx rws ma dpd isl inn atk : Nat} {g : Nat → Option am_E} {n nn m p N k x : Nat} {f : Nat → Nat} (hN : NQ n q1 q2 q3) (hp : n < p) (hg : g p = some (.inl (.int, N, .inl (fun j => nI (f j))))) (hk : k < N) (hN2 : N < 1000000) : am_pi ((nn, m, RO sh kd kz ko q1 q2 q3 cp so ki nu no sp hn sl ah he fr ou tol bx rws ma dpd isl inn atk g)) p (nI k) (nI x) = some (nn, m, RO sh kd kz ko q1 q2 q3 cp so ki nu no sp hn sl ah he fr ou tol bx rws ma dpd isl inn atk (upN g p (some (.inl (.int, N, .inl (fun j => nI (upN f k x j))))))) := by
  show (match RO sh kd kz ko q1 q2 q3 cp so ki nu no sp hn sl ah he fr ou tol bx rws ma dpd isl inn atk g p with | some (.inl (.int, n', .inl f)) => if p = 0 ∨ nI k < 0 ∨ n' ≤ (nI k).toNatClampNeg then none else some (am_up (nn, m, RO sh kd kz ko q1 q2 q3 cp so ki nu no sp hn sl ah he fr ou tol bx rws ma dpd isl inn atk g) p (.inl (.int, n', .inl (upd f (nI k).toNatClampNeg (nI x))))) | _ => none) = _
  rw [RO_bg hN hp, hg]
  show (if p = 0 ∨ nI k < 0 ∨ N ≤ (nI k).toNatClampNeg then none else some _) = _
  have h28 := hN.1
  rw [if_neg (fun z => z.elim (by omega) (k_in hk (by omega))), nI_clamp (by omega), upN_i]
  exact congrArg some (Prod.ext rfl (Prod.ext rfl (RO_bgu hN hp)))
theorem b_gl {sh : Nat} {kd kz : Nat → Nat} {ko : Nat → Int32} {q1 q2 q3 cp : Nat} {so ki : Nat → Nat} {nu : Nat → Int64} {no sp : Nat} {hn sl ah : Nat → Nat} {he fr : Nat} {ou : Nat → Int64} {tol bx rws ma dpd isl inn atk : Nat} {g : Nat → Option am_E} {n nn m p N k : Nat} {x : Int64} {f : Nat → Int64} (hN : NQ n q1 q2 q3) (hp : n < p) (hg : g p = some (.inl (.long, N, .inr (.inl f)))) (hk : k < N) (hN2 : N < 1000000) : am_pl ((nn, m, RO sh kd kz ko q1 q2 q3 cp so ki nu no sp hn sl ah he fr ou tol bx rws ma dpd isl inn atk g)) p (nI k) x = some (nn, m, RO sh kd kz ko q1 q2 q3 cp so ki nu no sp hn sl ah he fr ou tol bx rws ma dpd isl inn atk (upN g p (some (.inl (.long, N, .inr (.inl (upN f k x))))))) := by
  show (match RO sh kd kz ko q1 q2 q3 cp so ki nu no sp hn sl ah he fr ou tol bx rws ma dpd isl inn atk g p with | some (.inl (.long, n', .inr (.inl f))) => if p = 0 ∨ nI k < 0 ∨ n' ≤ (nI k).toNatClampNeg then none else some (am_up (nn, m, RO sh kd kz ko q1 q2 q3 cp so ki nu no sp hn sl ah he fr ou tol bx rws ma dpd isl inn atk g) p (.inl (.long, n', .inr (.inl (vp_updL f (nI k).toNatClampNeg x))))) | _ => none) = _
  rw [RO_bg hN hp, hg]
  show (if p = 0 ∨ nI k < 0 ∨ N ≤ (nI k).toNatClampNeg then none else some _) = _
  have h28 := hN.1
  rw [if_neg (fun z => z.elim (by omega) (k_in hk (by omega))), nI_clamp (by omega)]
  exact congrArg some (Prod.ext rfl (Prod.ext rfl (RO_bgu hN hp)))
/-- the first k of f, zeros behind -/
def cpN {α : Type} (z : α) (f : Nat → α) (k : Nat) : Nat → α := fun j => if j < k then f j else z
theorem cpN_s {α : Type} (z : α) (f : Nat → α) (k : Nat) : upN (cpN z f k) k (f k) = cpN z f (k + 1) := by
  funext j
  simp only [upN, cpN]
  by_cases h : j = k
  · subst h; simp
  · simp only [h, if_false]
    by_cases h2 : j < k
    · simp [h2, show j < k + 1 by omega]
    · simp [h2, show ¬ j < k + 1 by omega]
theorem m_gL1 {sh : Nat} {kd kz : Nat → Nat} {ko : Nat → Int32} {q1 q2 q3 cp : Nat} {so ki : Nat → Nat} {nu : Nat → Int64} {no sp : Nat} {hn sl ah : Nat → Nat} {he fr : Nat} {ou : Nat → Int64} {tol bx rws ma dpd isl inn atk : Nat} {g : Nat → Option am_E} {n m d N : Nat} (hq : OKq q1 q2 q3) (hN : NQ n q1 q2 q3) (hc : cp < 100000) (hno : no ≤ cp) (hnN : no ≤ N) (hN2 : N < 1000000) : ∀ (c k : Nat), k + c = no → am_X (ev d) B5_grow_0 (B5_grow_26, [some (.ref 18), some (.int (nI N)), some (.ref (n + 1)), some (.ref (n + 2)), some (.ref (n + 3)), some (.int (nI k))], [], (n + 3, m, RO sh kd kz ko q1 q2 q3 cp so ki nu no sp hn sl ah he fr ou tol bx rws ma dpd isl inn atk (upN (upN g (n + 1) (some (.inl (.int, N, .inl (fun j => nI (cpN 0 so k j)))))) (n + 3) (some (.inl (.long, N, .inr (.inl (cpN (lN 0) nu k)))))))) = am_X (ev d) B5_grow_0 (B5_grow_64, [some (.ref 18), some (.int (nI N)), some (.ref (n + 1)), some (.ref (n + 2)), some (.ref (n + 3)), some (.int (nI no))], [], (n + 3, m, RO sh kd kz ko q1 q2 q3 cp so ki nu no sp hn sl ah he fr ou tol bx rws ma dpd isl inn atk (upN (upN g (n + 1) (some (.inl (.int, N, .inl (fun j => nI (cpN 0 so no j)))))) (n + 3) (some (.inl (.long, N, .inr (.inl (cpN (lN 0) nu no)))))))) := by
  intro c
  induction c with
  | zero =>
    intro k hk
    obtain rfl : k = no := by omega
    conv => lhs; rw [uB5_grow_26]
    simp (disch := first | exact q_two_i _ | exact q_two_r _ | exact q_two_n | exact q_sh0 | exact q_sh1 _ | exact q_sh2 _ _ | exact q_sh3 _ _ _ | exact q_sh4 _ _ _ _ | exact c_cl_5 hq | exact c_tc_5_3 _ | exact c_tc_5_7 _ | exact c_tc_5_8 _ | exact c_tc_5_12 _ | exact c_tc_5_13 _ | exact c_tc_5_15 _ | exact c_tc_5_16 _ | exact c_tc_5_17 _ | exact c_tc_5_18 _ | exact c_tc_5_19 _ | exact c_tc_5_21 _ | exact c_tc_5_22 _ | exact c_tc_5_20a | exact c_tc_5_20b | exact z_01 | exact z_11 | exact nz_24 | exact nz_16 | assumption | omega) only [x_iconst, x_aload_0, x_getf, c_gf_5_7, x_imul, x_istore_1, x_iload_1, x_newa_int, x_astore_2, x_bipush, x_astore_3, x_newa_long, x_astore_4, x_istore_5, x_iload_5, x_ic_ge, x_aload_2, c_gf_5_4, x_iaload, x_iastore, x_aload_4, c_gf_5_6, x_laload, x_lastore, x_iinc_5, x_goto, x_aload_3, c_gf_5_5, x_putf, x_ret_v, jB5_grow_26, jB5_grow_64, jB5_grow_67, jB5_grow_96, uB5_grow_67, uB5_grow_96, n_0, n_1, n_2, n_3, n_4, n_5, n_6, n_7, n_8, n_9, n_10, n_12, n_13, n_15, n_16, n_20, n_24, n_60, n_64, n_72, n_96, n_192, n_256, n_400, n_808, n_960, n_1440, n_2048, n_2720, n_16777215, n_1000000, l_0, l_1, l_8, l_20, l_60, l_lt_t, l_lt_f, l_ge_t, l_ge_f, l_eq_t, l_eq_f, lN_i, nI_l, i_lt_t, i_lt_f, i_le_t, i_le_f, i_eq_t, i_eq_f, ↓n_m1, ↓n_m2, i_m1, i_m1s, i_m1lt, i_m1le, i_m1l2, i_m1l3, i_mm, nI_add, pk_mul, i_sub, i_dec, i_dec0, i_s01, i_div, Nat.reduceAdd, Nat.reduceSub, Nat.reduceMul, Nat.zero_add, if_true, if_false, not_true, not_false_eq_true, hq]
  | succ c ih' =>
    intro k hk
    rw [← ih' (k + 1) (by omega)]
    conv => lhs; rw [uB5_grow_26]
    have e1 := fun (G : Nat → Option am_E) (h : G (n + 1) = some (.inl (.int, N, .inl (fun j => nI (cpN 0 so k j))))) => b_gi (sh := sh) (kd := kd) (kz := kz) (ko := ko) (q1 := q1) (q2 := q2) (q3 := q3) (cp := cp) (so := so) (ki := ki) (nu := nu) (no := no) (sp := sp) (hn := hn) (sl := sl) (ah := ah) (he := he) (fr := fr) (ou := ou) (tol := tol) (bx := bx) (rws := rws) (ma := ma) (dpd := dpd) (isl := isl) (inn := inn) (atk := atk) (g := G) (n := n) (nn := n + 3) (m := m) (p := n + 1) (N := N) (k := k) (x := so k) (f := cpN 0 so k) hN (by omega) h (by omega) hN2
    have e2 := fun (G : Nat → Option am_E) (h : G (n + 3) = some (.inl (.long, N, .inr (.inl (cpN (lN 0) nu k))))) => b_gl (sh := sh) (kd := kd) (kz := kz) (ko := ko) (q1 := q1) (q2 := q2) (q3 := q3) (cp := cp) (so := so) (ki := ki) (nu := nu) (no := no) (sp := sp) (hn := hn) (sl := sl) (ah := ah) (he := he) (fr := fr) (ou := ou) (tol := tol) (bx := bx) (rws := rws) (ma := ma) (dpd := dpd) (isl := isl) (inn := inn) (atk := atk) (g := G) (n := n) (nn := n + 3) (m := m) (p := n + 3) (N := N) (k := k) (x := nu k) (f := cpN (lN 0) nu k) hN (by omega) h (by omega) hN2
    simp (disch := first | exact q_two_i _ | exact q_two_r _ | exact q_two_n | exact q_sh0 | exact q_sh1 _ | exact q_sh2 _ _ | exact q_sh3 _ _ _ | exact q_sh4 _ _ _ _ | exact c_cl_5 hq | exact c_tc_5_3 _ | exact c_tc_5_7 _ | exact c_tc_5_8 _ | exact c_tc_5_12 _ | exact c_tc_5_13 _ | exact c_tc_5_15 _ | exact c_tc_5_16 _ | exact c_tc_5_17 _ | exact c_tc_5_18 _ | exact c_tc_5_19 _ | exact c_tc_5_21 _ | exact c_tc_5_22 _ | exact c_tc_5_20a | exact c_tc_5_20b | exact z_01 | exact z_11 | exact nz_24 | exact nz_16 | assumption | omega) only [x_iconst, x_aload_0, x_getf, c_gf_5_7, x_imul, x_istore_1, x_iload_1, x_newa_int, x_astore_2, x_bipush, x_astore_3, x_newa_long, x_astore_4, x_istore_5, x_iload_5, x_ic_ge, x_aload_2, c_gf_5_4, x_iaload, x_iastore, x_aload_4, c_gf_5_6, x_laload, x_lastore, x_iinc_5, x_goto, x_aload_3, c_gf_5_5, x_putf, x_ret_v, jB5_grow_26, jB5_grow_64, jB5_grow_67, jB5_grow_96, uB5_grow_67, uB5_grow_96, n_0, n_1, n_2, n_3, n_4, n_5, n_6, n_7, n_8, n_9, n_10, n_12, n_13, n_15, n_16, n_20, n_24, n_60, n_64, n_72, n_96, n_192, n_256, n_400, n_808, n_960, n_1440, n_2048, n_2720, n_16777215, n_1000000, l_0, l_1, l_8, l_20, l_60, l_lt_t, l_lt_f, l_ge_t, l_ge_f, l_eq_t, l_eq_f, lN_i, nI_l, i_lt_t, i_lt_f, i_le_t, i_le_f, i_eq_t, i_eq_f, ↓n_m1, ↓n_m2, i_m1, i_m1s, i_m1lt, i_m1le, i_m1l2, i_m1l3, i_mm, nI_add, pk_mul, i_sub, i_dec, i_dec0, i_s01, i_div, Nat.reduceAdd, Nat.reduceSub, Nat.reduceMul, Nat.zero_add, if_true, if_false, not_true, not_false_eq_true, hq, c_g_q1, c_g_q3]
    rw [e1 _ (by rw [upN_n _ _ (by omega), upN_s])]
    simp (disch := first | exact q_two_i _ | exact q_two_r _ | exact q_two_n | exact q_sh0 | exact q_sh1 _ | exact q_sh2 _ _ | exact q_sh3 _ _ _ | exact q_sh4 _ _ _ _ | exact c_cl_5 hq | exact c_tc_5_3 _ | exact c_tc_5_7 _ | exact c_tc_5_8 _ | exact c_tc_5_12 _ | exact c_tc_5_13 _ | exact c_tc_5_15 _ | exact c_tc_5_16 _ | exact c_tc_5_17 _ | exact c_tc_5_18 _ | exact c_tc_5_19 _ | exact c_tc_5_21 _ | exact c_tc_5_22 _ | exact c_tc_5_20a | exact c_tc_5_20b | exact z_01 | exact z_11 | exact nz_24 | exact nz_16 | assumption | omega) only [x_iconst, x_aload_0, x_getf, c_gf_5_7, x_imul, x_istore_1, x_iload_1, x_newa_int, x_astore_2, x_bipush, x_astore_3, x_newa_long, x_astore_4, x_istore_5, x_iload_5, x_ic_ge, x_aload_2, c_gf_5_4, x_iaload, x_iastore, x_aload_4, c_gf_5_6, x_laload, x_lastore, x_iinc_5, x_goto, x_aload_3, c_gf_5_5, x_putf, x_ret_v, jB5_grow_26, jB5_grow_64, jB5_grow_67, jB5_grow_96, uB5_grow_67, uB5_grow_96, n_0, n_1, n_2, n_3, n_4, n_5, n_6, n_7, n_8, n_9, n_10, n_12, n_13, n_15, n_16, n_20, n_24, n_60, n_64, n_72, n_96, n_192, n_256, n_400, n_808, n_960, n_1440, n_2048, n_2720, n_16777215, n_1000000, l_0, l_1, l_8, l_20, l_60, l_lt_t, l_lt_f, l_ge_t, l_ge_f, l_eq_t, l_eq_f, lN_i, nI_l, i_lt_t, i_lt_f, i_le_t, i_le_f, i_eq_t, i_eq_f, ↓n_m1, ↓n_m2, i_m1, i_m1s, i_m1lt, i_m1le, i_m1l2, i_m1l3, i_mm, nI_add, pk_mul, i_sub, i_dec, i_dec0, i_s01, i_div, Nat.reduceAdd, Nat.reduceSub, Nat.reduceMul, Nat.zero_add, if_true, if_false, not_true, not_false_eq_true, hq, c_g_q1, c_g_q3]
    rw [e2 _ (by rw [upN_n _ _ (by omega), upN_s])]
    simp (disch := first | exact q_two_i _ | exact q_two_r _ | exact q_two_n | exact q_sh0 | exact q_sh1 _ | exact q_sh2 _ _ | exact q_sh3 _ _ _ | exact q_sh4 _ _ _ _ | exact c_cl_5 hq | exact c_tc_5_3 _ | exact c_tc_5_7 _ | exact c_tc_5_8 _ | exact c_tc_5_12 _ | exact c_tc_5_13 _ | exact c_tc_5_15 _ | exact c_tc_5_16 _ | exact c_tc_5_17 _ | exact c_tc_5_18 _ | exact c_tc_5_19 _ | exact c_tc_5_21 _ | exact c_tc_5_22 _ | exact c_tc_5_20a | exact c_tc_5_20b | exact z_01 | exact z_11 | exact nz_24 | exact nz_16 | assumption | omega) only [x_iconst, x_aload_0, x_getf, c_gf_5_7, x_imul, x_istore_1, x_iload_1, x_newa_int, x_astore_2, x_bipush, x_astore_3, x_newa_long, x_astore_4, x_istore_5, x_iload_5, x_ic_ge, x_aload_2, c_gf_5_4, x_iaload, x_iastore, x_aload_4, c_gf_5_6, x_laload, x_lastore, x_iinc_5, x_goto, x_aload_3, c_gf_5_5, x_putf, x_ret_v, jB5_grow_26, jB5_grow_64, jB5_grow_67, jB5_grow_96, uB5_grow_67, uB5_grow_96, n_0, n_1, n_2, n_3, n_4, n_5, n_6, n_7, n_8, n_9, n_10, n_12, n_13, n_15, n_16, n_20, n_24, n_60, n_64, n_72, n_96, n_192, n_256, n_400, n_808, n_960, n_1440, n_2048, n_2720, n_16777215, n_1000000, l_0, l_1, l_8, l_20, l_60, l_lt_t, l_lt_f, l_ge_t, l_ge_f, l_eq_t, l_eq_f, lN_i, nI_l, i_lt_t, i_lt_f, i_le_t, i_le_f, i_eq_t, i_eq_f, ↓n_m1, ↓n_m2, i_m1, i_m1s, i_m1lt, i_m1le, i_m1l2, i_m1l3, i_mm, nI_add, pk_mul, i_sub, i_dec, i_dec0, i_s01, i_div, Nat.reduceAdd, Nat.reduceSub, Nat.reduceMul, Nat.zero_add, if_true, if_false, not_true, not_false_eq_true, hq]
    have q : upN (upN (upN (upN g (n + 1) (some (.inl (.int, N, .inl (fun j => nI (cpN 0 so k j)))))) (n + 3) (some (.inl (.long, N, .inr (.inl (cpN (lN 0) nu k)))))) (n + 1) (some (.inl (.int, N, .inl (fun j => nI (upN (cpN 0 so k) k (so k) j)))))) (n + 3) (some (.inl (.long, N, .inr (.inl (upN (cpN (lN 0) nu k) k (nu k)))))) = upN (upN g (n + 1) (some (.inl (.int, N, .inl (fun j => nI (cpN 0 so (k + 1) j)))))) (n + 3) (some (.inl (.long, N, .inr (.inl (cpN (lN 0) nu (k + 1)))))) := by
      rw [cpN_s, cpN_s]
      funext p
      simp only [upN]
      by_cases h1 : p = n + 3
      · simp [h1]
      · by_cases h2 : p = n + 1 <;> simp [h1, h2]
    rw [q]
theorem m_gL2 {sh : Nat} {kd kz : Nat → Nat} {ko : Nat → Int32} {q1 q2 q3 cp : Nat} {so ki : Nat → Nat} {nu : Nat → Int64} {no sp : Nat} {hn sl ah : Nat → Nat} {he fr : Nat} {ou : Nat → Int64} {tol bx rws ma dpd isl inn atk : Nat} {g : Nat → Option am_E} {n m d N N1 : Nat} (hq : OKq q1 q2 q3) (hN : NQ n q1 q2 q3) (hc : cp < 100000) (hno : no ≤ cp) (hnN : 8 * no ≤ N) (hN2 : N < 1000000) : ∀ (c k : Nat), k + c = 8 * no → am_X (ev d) B5_grow_0 (B5_grow_67, [some (.ref 18), some (.int (nI N1)), some (.ref (n + 1)), some (.ref (n + 2)), some (.ref (n + 3)), some (.int (nI k))], [], (n + 3, m, RO sh kd kz ko q1 q2 q3 cp so ki nu no sp hn sl ah he fr ou tol bx rws ma dpd isl inn atk (upN g (n + 2) (some (.inl (.int, N, .inl (fun j => nI (cpN 0 ki k j)))))))) = am_X (ev d) B5_grow_0 (B5_grow_96, [some (.ref 18), some (.int (nI N1)), some (.ref (n + 1)), some (.ref (n + 2)), some (.ref (n + 3)), some (.int (nI (8 * no)))], [], (n + 3, m, RO sh kd kz ko q1 q2 q3 cp so ki nu no sp hn sl ah he fr ou tol bx rws ma dpd isl inn atk (upN g (n + 2) (some (.inl (.int, N, .inl (fun j => nI (cpN 0 ki (8 * no) j)))))))) := by
  intro c
  induction c with
  | zero =>
    intro k hk
    obtain rfl : k = 8 * no := by omega
    conv => lhs; rw [uB5_grow_67]
    simp (disch := first | exact q_two_i _ | exact q_two_r _ | exact q_two_n | exact q_sh0 | exact q_sh1 _ | exact q_sh2 _ _ | exact q_sh3 _ _ _ | exact q_sh4 _ _ _ _ | exact c_cl_5 hq | exact c_tc_5_3 _ | exact c_tc_5_7 _ | exact c_tc_5_8 _ | exact c_tc_5_12 _ | exact c_tc_5_13 _ | exact c_tc_5_15 _ | exact c_tc_5_16 _ | exact c_tc_5_17 _ | exact c_tc_5_18 _ | exact c_tc_5_19 _ | exact c_tc_5_21 _ | exact c_tc_5_22 _ | exact c_tc_5_20a | exact c_tc_5_20b | exact z_01 | exact z_11 | exact nz_24 | exact nz_16 | assumption | omega) only [x_iconst, x_aload_0, x_getf, c_gf_5_7, x_imul, x_istore_1, x_iload_1, x_newa_int, x_astore_2, x_bipush, x_astore_3, x_newa_long, x_astore_4, x_istore_5, x_iload_5, x_ic_ge, x_aload_2, c_gf_5_4, x_iaload, x_iastore, x_aload_4, c_gf_5_6, x_laload, x_lastore, x_iinc_5, x_goto, x_aload_3, c_gf_5_5, x_putf, x_ret_v, jB5_grow_26, jB5_grow_64, jB5_grow_67, jB5_grow_96, uB5_grow_26, uB5_grow_64, n_0, n_1, n_2, n_3, n_4, n_5, n_6, n_7, n_8, n_9, n_10, n_12, n_13, n_15, n_16, n_20, n_24, n_60, n_64, n_72, n_96, n_192, n_256, n_400, n_808, n_960, n_1440, n_2048, n_2720, n_16777215, n_1000000, l_0, l_1, l_8, l_20, l_60, l_lt_t, l_lt_f, l_ge_t, l_ge_f, l_eq_t, l_eq_f, lN_i, nI_l, i_lt_t, i_lt_f, i_le_t, i_le_f, i_eq_t, i_eq_f, ↓n_m1, ↓n_m2, i_m1, i_m1s, i_m1lt, i_m1le, i_m1l2, i_m1l3, i_mm, nI_add, pk_mul, i_sub, i_dec, i_dec0, i_s01, i_div, Nat.reduceAdd, Nat.reduceSub, Nat.reduceMul, Nat.zero_add, if_true, if_false, not_true, not_false_eq_true, hq]
  | succ c ih' =>
    intro k hk
    rw [← ih' (k + 1) (by omega)]
    conv => lhs; rw [uB5_grow_67]
    have e1 := fun (G : Nat → Option am_E) (h : G (n + 2) = some (.inl (.int, N, .inl (fun j => nI (cpN 0 ki k j))))) => b_gi (sh := sh) (kd := kd) (kz := kz) (ko := ko) (q1 := q1) (q2 := q2) (q3 := q3) (cp := cp) (so := so) (ki := ki) (nu := nu) (no := no) (sp := sp) (hn := hn) (sl := sl) (ah := ah) (he := he) (fr := fr) (ou := ou) (tol := tol) (bx := bx) (rws := rws) (ma := ma) (dpd := dpd) (isl := isl) (inn := inn) (atk := atk) (g := G) (n := n) (nn := n + 3) (m := m) (p := n + 2) (N := N) (k := k) (x := ki k) (f := cpN 0 ki k) hN (by omega) h (by omega) hN2
    simp (disch := first | exact q_two_i _ | exact q_two_r _ | exact q_two_n | exact q_sh0 | exact q_sh1 _ | exact q_sh2 _ _ | exact q_sh3 _ _ _ | exact q_sh4 _ _ _ _ | exact c_cl_5 hq | exact c_tc_5_3 _ | exact c_tc_5_7 _ | exact c_tc_5_8 _ | exact c_tc_5_12 _ | exact c_tc_5_13 _ | exact c_tc_5_15 _ | exact c_tc_5_16 _ | exact c_tc_5_17 _ | exact c_tc_5_18 _ | exact c_tc_5_19 _ | exact c_tc_5_21 _ | exact c_tc_5_22 _ | exact c_tc_5_20a | exact c_tc_5_20b | exact z_01 | exact z_11 | exact nz_24 | exact nz_16 | assumption | omega) only [x_iconst, x_aload_0, x_getf, c_gf_5_7, x_imul, x_istore_1, x_iload_1, x_newa_int, x_astore_2, x_bipush, x_astore_3, x_newa_long, x_astore_4, x_istore_5, x_iload_5, x_ic_ge, x_aload_2, c_gf_5_4, x_iaload, x_iastore, x_aload_4, c_gf_5_6, x_laload, x_lastore, x_iinc_5, x_goto, x_aload_3, c_gf_5_5, x_putf, x_ret_v, jB5_grow_26, jB5_grow_64, jB5_grow_67, jB5_grow_96, uB5_grow_26, uB5_grow_64, n_0, n_1, n_2, n_3, n_4, n_5, n_6, n_7, n_8, n_9, n_10, n_12, n_13, n_15, n_16, n_20, n_24, n_60, n_64, n_72, n_96, n_192, n_256, n_400, n_808, n_960, n_1440, n_2048, n_2720, n_16777215, n_1000000, l_0, l_1, l_8, l_20, l_60, l_lt_t, l_lt_f, l_ge_t, l_ge_f, l_eq_t, l_eq_f, lN_i, nI_l, i_lt_t, i_lt_f, i_le_t, i_le_f, i_eq_t, i_eq_f, ↓n_m1, ↓n_m2, i_m1, i_m1s, i_m1lt, i_m1le, i_m1l2, i_m1l3, i_mm, nI_add, pk_mul, i_sub, i_dec, i_dec0, i_s01, i_div, Nat.reduceAdd, Nat.reduceSub, Nat.reduceMul, Nat.zero_add, if_true, if_false, not_true, not_false_eq_true, hq, c_g_q2]
    rw [e1 _ (by rw [upN_s])]
    simp (disch := first | exact q_two_i _ | exact q_two_r _ | exact q_two_n | exact q_sh0 | exact q_sh1 _ | exact q_sh2 _ _ | exact q_sh3 _ _ _ | exact q_sh4 _ _ _ _ | exact c_cl_5 hq | exact c_tc_5_3 _ | exact c_tc_5_7 _ | exact c_tc_5_8 _ | exact c_tc_5_12 _ | exact c_tc_5_13 _ | exact c_tc_5_15 _ | exact c_tc_5_16 _ | exact c_tc_5_17 _ | exact c_tc_5_18 _ | exact c_tc_5_19 _ | exact c_tc_5_21 _ | exact c_tc_5_22 _ | exact c_tc_5_20a | exact c_tc_5_20b | exact z_01 | exact z_11 | exact nz_24 | exact nz_16 | assumption | omega) only [x_iconst, x_aload_0, x_getf, c_gf_5_7, x_imul, x_istore_1, x_iload_1, x_newa_int, x_astore_2, x_bipush, x_astore_3, x_newa_long, x_astore_4, x_istore_5, x_iload_5, x_ic_ge, x_aload_2, c_gf_5_4, x_iaload, x_iastore, x_aload_4, c_gf_5_6, x_laload, x_lastore, x_iinc_5, x_goto, x_aload_3, c_gf_5_5, x_putf, x_ret_v, jB5_grow_26, jB5_grow_64, jB5_grow_67, jB5_grow_96, uB5_grow_26, uB5_grow_64, n_0, n_1, n_2, n_3, n_4, n_5, n_6, n_7, n_8, n_9, n_10, n_12, n_13, n_15, n_16, n_20, n_24, n_60, n_64, n_72, n_96, n_192, n_256, n_400, n_808, n_960, n_1440, n_2048, n_2720, n_16777215, n_1000000, l_0, l_1, l_8, l_20, l_60, l_lt_t, l_lt_f, l_ge_t, l_ge_f, l_eq_t, l_eq_f, lN_i, nI_l, i_lt_t, i_lt_f, i_le_t, i_le_f, i_eq_t, i_eq_f, ↓n_m1, ↓n_m2, i_m1, i_m1s, i_m1lt, i_m1le, i_m1l2, i_m1l3, i_mm, nI_add, pk_mul, i_sub, i_dec, i_dec0, i_s01, i_div, Nat.reduceAdd, Nat.reduceSub, Nat.reduceMul, Nat.zero_add, if_true, if_false, not_true, not_false_eq_true, hq]
    have q : upN (upN g (n + 2) (some (.inl (.int, N, .inl (fun j => nI (cpN 0 ki k j)))))) (n + 2) (some (.inl (.int, N, .inl (fun j => nI (upN (cpN 0 ki k) k (ki k) j))))) = upN g (n + 2) (some (.inl (.int, N, .inl (fun j => nI (cpN 0 ki (k + 1) j))))) := by
      rw [cpN_s]
      funext p
      simp only [upN]
      by_cases h1 : p = n + 2 <;> simp [h1]
    rw [q]
theorem c_tc_5_4 (x : Nat) : am_tc (am_ty 5 4) (.ref x) = true := q_tca _ x
theorem c_tc_5_5 (x : Nat) : am_tc (am_ty 5 5) (.ref x) = true := q_tca _ x
theorem c_tc_5_6 (x : Nat) : am_tc (am_ty 5 6) (.ref x) = true := q_tca _ x
theorem ff_1 {h : am_H} {fs : List Value} {w : Value} {k : Nat} (e : h.2.2 18 = some (.inr (5, fs))) (hk : k < fs.length) : am_pf h 18 5 k w = some (am_up h 18 (.inr (5, fs.set k w))) := by
  unfold am_pf
  rw [e]
  simp [hk]
theorem ff_u {h : am_H} {e e2 : am_E} {r : Nat} : am_up (am_up h r e) r e2 = am_up h r e2 := by
  simp only [am_up]
  refine Prod.ext rfl (Prod.ext rfl (funext fun k => ?_))
  by_cases hk : k = r <;> simp [hk]
/-- the new arrays in place -/
theorem m_gE {sh : Nat} {kd kz : Nat → Nat} {ko : Nat → Int32} {q1 q2 q3 cp : Nat} {so ki : Nat → Nat} {nu : Nat → Int64} {no sp : Nat} {hn sl ah : Nat → Nat} {he fr : Nat} {ou : Nat → Int64} {tol bx rws ma dpd isl inn atk : Nat} {g : Nat → Option am_E} {n m d N N1 : Nat} {x5 : Int32} {so2 ki2 : Nat → Nat} {nu2 : Nat → Int64} (hq : OKq q1 q2 q3) (hN : NQ n q1 q2 q3) (g1 : g (n + 1) = some (.inl (.int, N, .inl (fun j => nI (so2 j))))) (g2 : g (n + 2) = some (.inl (.int, 8 * N, .inl (fun j => nI (ki2 j))))) (g3 : g (n + 3) = some (.inl (.long, N, .inr (.inl nu2)))) : am_X (ev d) B5_grow_0 (B5_grow_96, [some (.ref 18), some (.int (nI N1)), some (.ref (n + 1)), some (.ref (n + 2)), some (.ref (n + 3)), some (.int x5)], [], (n + 3, m, RO sh kd kz ko q1 q2 q3 cp so ki nu no sp hn sl ah he fr ou tol bx rws ma dpd isl inn atk g)) = some (none, (n + 3, m, RO sh kd kz ko (n + 1) (n + 2) (n + 3) (N) (so2) (ki2) (nu2) no sp hn sl ah he fr ou tol bx rws ma dpd isl inn atk (ovl q1 q2 q3 (some (.inl (.int, cp, .inl (fun j => nI (so j))))) (some (.inl (.int, 8 * cp, .inl (fun j => nI (ki j))))) (some (.inl (.long, cp, .inr (.inl nu)))) g))) := by
  obtain ⟨h1, h2, h3, h4⟩ := hN
  have e18 : ((n + 3, m, RO sh kd kz ko q1 q2 q3 cp so ki nu no sp hn sl ah he fr ou tol bx rws ma dpd isl inn atk g) : am_H).2.2 18 = some (.inr (5, [.ref 19, .ref 20, .ref 21, .int (nI sh), .ref q1, .ref q2, .ref q3, .int (nI no), .int (nI sp), .ref 25, .ref 26, .ref 27, .int (nI he), .int (nI fr), .ref 28, .int (nI tol), .int (nI bx), .int (nI rws), .int (nI ma), .int (nI dpd), .int (nI isl), .int (nI inn), .int (nI atk)])) := RO_18 hq
  generalize hfs : [Value.ref 19, .ref 20, .ref 21, .int (nI sh), .ref q1, .ref q2, .ref q3, .int (nI no), .int (nI sp), .ref 25, .ref 26, .ref 27, .int (nI he), .int (nI fr), .ref 28, .int (nI tol), .int (nI bx), .int (nI rws), .int (nI ma), .int (nI dpd), .int (nI isl), .int (nI inn), .int (nI atk)] = fs0 at e18
  have hlen : fs0.length = 23 := by rw [← hfs]; rfl
  rw [uB5_grow_96]
  simp only [x_aload_0, x_aload_2, x_aload_3, x_aload_4]
  rw [x_putf (hw := c_tc_5_4 _), ff_1 (k := 4) e18 (by omega)]
  simp only [x_aload_0, x_aload_2, x_aload_3, x_aload_4]
  rw [x_putf (hw := c_tc_5_6 _), ff_1 (k := 6) (fs := fs0.set 4 (.ref (n + 1))) (by simp [am_up]) (by rw [List.length_set]; omega), ff_u]
  simp only [x_aload_0, x_aload_2, x_aload_3, x_aload_4]
  rw [x_putf (hw := c_tc_5_5 _), ff_1 (k := 5) (fs := (fs0.set 4 (.ref (n + 1))).set 6 (.ref (n + 3))) (by simp [am_up]) (by rw [List.length_set, List.length_set]; omega), ff_u]
  simp only [x_ret_v]
  refine congrArg some (Prod.ext rfl (Prod.ext rfl (Prod.ext rfl (funext fun p => ?_))))
  show (if p = 18 then _ else RO _ _ _ _ _ _ _ _ _ _ _ _ _ _ _ _ _ _ _ _ _ _ _ _ _ _ _ _ p) = RO _ _ _ _ _ _ _ _ _ _ _ _ _ _ _ _ _ _ _ _ _ _ _ _ _ _ _ _ p
  have hOK := hq
  obtain ⟨-, hq2⟩ := hq
  by_cases p18 : p = 18
  · subst p18
    rw [if_pos rfl, ← hfs]
    unfold RO
    rw [ovl_at (p := 18) ⟨by omega, by omega, by omega⟩]
    rfl
  · rw [if_neg p18]
    by_cases p1 : p = n + 1
    · subst p1
      rw [RO_bg ⟨h1, h2, h3, h4⟩ (by omega), g1]
      unfold RO
      rw [ovl_1]
    · by_cases p2 : p = n + 2
      · subst p2
        rw [RO_bg ⟨h1, h2, h3, h4⟩ (by omega), g2]
        unfold RO ovl
        rw [if_neg (by omega), if_pos rfl]
      · by_cases p3 : p = n + 3
        · subst p3
          rw [RO_bg ⟨h1, h2, h3, h4⟩ (by omega), g3]
          unfold RO ovl
          rw [if_neg (by omega), if_neg (by omega), if_pos rfl]
        · have e1 : ∀ (a b c : Option am_E) (f : Nat → Option am_E), ovl (n + 1) (n + 2) (n + 3) a b c f p = f p := fun a b c f => ovl_at ⟨p1, p2, p3⟩
          unfold RO
          rw [e1]
          by_cases hfix : p ∈ [18, 19, 20, 21, 25, 26, 27, 28]
          · rw [ovl_at (hq2 p hfix)]
            simp only [List.mem_cons, List.not_mem_nil, or_false] at hfix
            rcases hfix with rfl | rfl | rfl | rfl | rfl | rfl | rfl | rfl <;> first | exact absurd rfl p18 | rfl
          · have e2 : ∀ (a1 : Nat) (a2 a3 : Nat → Nat) (a4 : Nat → Int32) (a5 a6 a7 a8 : Nat) (a9 a10 : Nat → Nat) (a11 : Nat → Int64) (a12 a13 : Nat) (a14 a15 a16 : Nat → Nat) (a17 a18 : Nat) (a19 : Nat → Int64) (b1 b2 b3 b4 b5 b6 b7 b8 : Nat) (f : Nat → Option am_E), RF a1 a2 a3 a4 a5 a6 a7 a8 a9 a10 a11 a12 a13 a14 a15 a16 a17 a18 a19 b1 b2 b3 b4 b5 b6 b7 b8 f p = f p := by
              intros
              unfold RF
              split <;> first | rfl | exact absurd (by decide) hfix
            rw [e2]
            simp only [ovl, e2]
