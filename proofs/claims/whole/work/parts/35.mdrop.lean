/-! The reference's drop: a recursion over the tree. -/
def f_h : Fo → Nat
  | .leaf => 0
  | .inner _ _ _ K N => max (f_h K + 1) (f_h N)
/-- the free nodes, a chain by their first kids -/
def fr_ok (ki : Nat → Nat) : Nat → List Nat → Prop
  | sp, [] => sp = 0
  | sp, x :: r => sp = x ∧ x ≠ 0 ∧ fr_ok ki (ki (8 * x)) r
theorem fr_keep {ki ki2 : Nat → Nat} : ∀ {l : List Nat} {sp : Nat}, fr_ok ki sp l → (∀ z, z ∈ l → ki2 (8 * z) = ki (8 * z)) → fr_ok ki2 sp l
  | [], _, h, _ => h
  | x :: r, sp, h, hk => ⟨h.1, h.2.1, by rw [hk x List.mem_cons_self]; exact fr_keep h.2.2 (fun z hz => hk z (List.mem_cons_of_mem _ hz))⟩
theorem f_okR_keep {so ki ki2 : Nat → Nat} {nu : Nat → Int64} : ∀ {F : Fo}, f_okR so ki nu F → (∀ z, 0 < f_cx z F → ∀ i, i < 8 → ki2 (8 * z + i) = ki (8 * z + i)) → f_okR so ki2 nu F
  | .leaf, _, _ => trivial
  | .inner s k v K N, h, hk => by
    obtain ⟨⟨h1, h2, h3⟩, h4, h5⟩ := h
    refine ⟨⟨h1, h2, fun i hi => ?_⟩, f_okR_keep h4 (fun z hz => hk z (by simp only [f_cx]; omega)), f_okR_keep h5 (fun z hz => hk z (by simp only [f_cx]; omega))⟩
    rw [hk k.1 (by simp only [f_cx, if_true]; omega) i hi, h3 i hi]
theorem f_rt_0 : ∀ (F : Fo) (i : Nat), f_len F ≤ i → f_rt F i = 0
  | .leaf, _, _ => rfl
  | .inner s k v K N, 0, h => by simp [f_len] at h
  | .inner s k v K N, i + 1, h => f_rt_0 N i (by simp [f_len] at h; omega)
theorem m_dE {sh : Nat} {kd kz : Nat → Nat} {ko : Nat → Int32} {q1 q2 q3 cp : Nat} {so ki : Nat → Nat} {nu : Nat → Int64} {no sp : Nat} {hn sl ah : Nat → Nat} {he fr : Nat} {ou : Nat → Int64} {tol bx rws ma dpd isl inn atk : Nat} {g : Nat → Option am_E} {n m d x kx : Nat} (hq : OKq q1 q2 q3) (hc : cp < 100000) (hx : x < cp) : ∀ (c j : Nat), j + c = 8 → (∀ i, j ≤ i → i < 8 → ki (8 * x + i) = 0) → am_X (ev d) B5_dropped_0 (B5_dropped_66, [some (.ref 18), some (.int (nI x)), some (.int (nI kx)), some (.int (nI j))], [], (n, m, RO sh kd kz ko q1 q2 q3 cp so ki nu no sp hn sl ah he fr ou tol bx rws ma dpd isl inn atk g)) = am_X (ev d) B5_dropped_0 (B5_dropped_66, [some (.ref 18), some (.int (nI x)), some (.int (nI kx)), some (.int (nI 8))], [], (n, m, RO sh kd kz ko q1 q2 q3 cp so ki nu no sp hn sl ah he fr ou tol bx rws ma dpd isl inn atk g)) := by
  intro c
  induction c with
  | zero =>
    intro j hj _
    obtain rfl : j = 8 := by omega
    rfl
  | succ c ih' =>
    intro j hj h0
    have h1 := h0 j (Nat.le_refl _) (by omega)
    rw [← ih' (j + 1) (by omega) (fun i h2 h3 => h0 i (by omega) h3)]
    conv => lhs; rw [uB5_dropped_66]
    simp (disch := first | exact q_two_i _ | exact q_two_r _ | exact q_two_n | exact q_sh0 | exact q_sh1 _ | exact q_sh2 _ _ | exact q_sh3 _ _ _ | exact q_sh4 _ _ _ _ | exact c_cl_5 hq | exact c_tc_5_3 _ | exact c_tc_5_7 _ | exact c_tc_5_8 _ | exact c_tc_5_12 _ | exact c_tc_5_13 _ | exact c_tc_5_15 _ | exact c_tc_5_16 _ | exact c_tc_5_17 _ | exact c_tc_5_18 _ | exact c_tc_5_19 _ | exact c_tc_5_21 _ | exact c_tc_5_22 _ | exact c_tc_5_20a | exact c_tc_5_20b | exact z_01 | exact z_11 | exact nz_24 | exact nz_16 | assumption | omega) only [x_aload_0, x_iload_1, x_iv_1, x_kx1, x_kx0, x_istore_2, x_iload_2, x_iconst, x_ic_ne, x_getf, c_gf_5_15, x_sipush, x_ic_ge, c_gf_5_14, c_gf_5_6, c_gf_5_5, x_bipush, x_imul, x_iaload, x_laload, x_lastore, x_dup_int, x_dup_ref, x_iadd, x_putf, c_pf_5_15, c_gf_5_19, c_pf_5_19, x_istore_3, x_iload_3, x_if_eq, x_iinc_3, x_goto, c_gf_5_16, x_isub, c_pf_5_16, c_gf_5_17, c_pf_5_17, x_ret_v, jB5_dropped_54, jB5_dropped_64, jB5_dropped_66, jB5_dropped_101, jB5_dropped_107, jB5_dropped_121, jB5_dropped_122, jB5_dropped_140, jB5_dropped_141, uB5_dropped_43, uB5_dropped_54, uB5_dropped_64, uB5_dropped_101, uB5_dropped_107, uB5_dropped_121, uB5_dropped_122, uB5_dropped_140, uB5_dropped_141, n_0, n_1, n_2, n_3, n_4, n_5, n_6, n_7, n_8, n_9, n_10, n_12, n_13, n_15, n_16, n_20, n_24, n_60, n_64, n_72, n_96, n_192, n_256, n_400, n_808, n_960, n_1440, n_2048, n_2720, n_16777215, n_1000000, l_0, l_1, l_8, l_20, l_60, l_lt_t, l_lt_f, l_ge_t, l_ge_f, l_eq_t, l_eq_f, lN_i, nI_l, i_lt_t, i_lt_f, i_le_t, i_le_f, i_eq_t, i_eq_f, ↓n_m1, ↓n_m2, i_m1, i_m1s, i_m1lt, i_m1le, i_m1l2, i_m1l3, i_mm, nI_add, pk_mul, i_sub, i_dec, i_dec0, i_s01, i_div, Nat.reduceAdd, Nat.reduceSub, Nat.reduceMul, Nat.zero_add, if_true, if_false, not_true, not_false_eq_true, hq, c_g_q2, h1]
theorem m_dT {sh : Nat} {kd kz : Nat → Nat} {ko : Nat → Int32} {q1 q2 q3 cp : Nat} {so ki : Nat → Nat} {nu : Nat → Int64} {no sp : Nat} {hn sl ah : Nat → Nat} {he fr : Nat} {ou : Nat → Int64} {tol bx rws ma dpd isl inn atk : Nat} {g : Nat → Option am_E} {n m d x kx : Nat} (hq : OKq q1 q2 q3) (hk : kx < 100) (hx : x < cp) (hc : cp < 100000) (h2 : q2 ≠ 0) (hb : kx = 4 → 0 < bx) (hr : kx = 5 → 0 < rws) : am_X (ev (d + 1)) B5_dropped_0 (B5_dropped_66, [some (.ref 18), some (.int (nI x)), some (.int (nI kx)), some (.int (nI 8))], [], (n, m, RO sh kd kz ko q1 q2 q3 cp so ki nu no sp hn sl ah he fr ou tol bx rws ma dpd isl inn atk g)) = some (none, (n, m, RO sh kd kz ko q1 q2 q3 cp so (upN ki (8 * x) sp) nu no (x) hn sl ah he fr ou tol (bx - (if kx = 4 then 1 else 0)) (rws - (if kx = 5 then 1 else 0)) ma dpd isl inn atk g)) := by
  rw [uB5_dropped_66]
  by_cases h4 : kx = 4
  · subst h4
    have := hb rfl
    simp (disch := first | exact q_two_i _ | exact q_two_r _ | exact q_two_n | exact q_sh0 | exact q_sh1 _ | exact q_sh2 _ _ | exact q_sh3 _ _ _ | exact q_sh4 _ _ _ _ | exact c_cl_5 hq | exact c_tc_5_3 _ | exact c_tc_5_7 _ | exact c_tc_5_8 _ | exact c_tc_5_12 _ | exact c_tc_5_13 _ | exact c_tc_5_15 _ | exact c_tc_5_16 _ | exact c_tc_5_17 _ | exact c_tc_5_18 _ | exact c_tc_5_19 _ | exact c_tc_5_21 _ | exact c_tc_5_22 _ | exact c_tc_5_20a | exact c_tc_5_20b | exact z_01 | exact z_11 | exact nz_24 | exact nz_16 | assumption | omega) only [x_aload_0, x_iload_1, x_iv_1, x_kx1, x_kx0, x_istore_2, x_iload_2, x_iconst, x_ic_ne, x_getf, c_gf_5_15, x_sipush, x_ic_ge, c_gf_5_14, c_gf_5_6, c_gf_5_5, x_bipush, x_imul, x_iaload, x_laload, x_lastore, x_dup_int, x_dup_ref, x_iadd, x_putf, c_pf_5_15, c_gf_5_19, c_pf_5_19, x_istore_3, x_iload_3, x_if_eq, x_iinc_3, x_goto, c_gf_5_16, x_isub, c_pf_5_16, c_gf_5_17, c_pf_5_17, x_ret_v, jB5_dropped_54, jB5_dropped_64, jB5_dropped_66, jB5_dropped_101, jB5_dropped_107, jB5_dropped_121, jB5_dropped_122, jB5_dropped_140, jB5_dropped_141, uB5_dropped_43, uB5_dropped_54, uB5_dropped_64, uB5_dropped_101, uB5_dropped_107, uB5_dropped_121, uB5_dropped_122, uB5_dropped_140, uB5_dropped_141, n_0, n_1, n_2, n_3, n_4, n_5, n_6, n_7, n_8, n_9, n_10, n_12, n_13, n_15, n_16, n_20, n_24, n_60, n_64, n_72, n_96, n_192, n_256, n_400, n_808, n_960, n_1440, n_2048, n_2720, n_16777215, n_1000000, l_0, l_1, l_8, l_20, l_60, l_lt_t, l_lt_f, l_ge_t, l_ge_f, l_eq_t, l_eq_f, lN_i, nI_l, i_lt_t, i_lt_f, i_le_t, i_le_f, i_eq_t, i_eq_f, ↓n_m1, ↓n_m2, i_m1, i_m1s, i_m1lt, i_m1le, i_m1l2, i_m1l3, i_mm, nI_add, pk_mul, i_sub, i_dec, i_dec0, i_s01, i_div, Nat.reduceAdd, Nat.reduceSub, Nat.reduceMul, Nat.zero_add, if_true, if_false, not_true, not_false_eq_true, hq, m_free, Nat.sub_zero, Nat.reduceEqDiff]
  · by_cases h5 : kx = 5
    · subst h5
      have := hr rfl
      simp (disch := first | exact q_two_i _ | exact q_two_r _ | exact q_two_n | exact q_sh0 | exact q_sh1 _ | exact q_sh2 _ _ | exact q_sh3 _ _ _ | exact q_sh4 _ _ _ _ | exact c_cl_5 hq | exact c_tc_5_3 _ | exact c_tc_5_7 _ | exact c_tc_5_8 _ | exact c_tc_5_12 _ | exact c_tc_5_13 _ | exact c_tc_5_15 _ | exact c_tc_5_16 _ | exact c_tc_5_17 _ | exact c_tc_5_18 _ | exact c_tc_5_19 _ | exact c_tc_5_21 _ | exact c_tc_5_22 _ | exact c_tc_5_20a | exact c_tc_5_20b | exact z_01 | exact z_11 | exact nz_24 | exact nz_16 | assumption | omega) only [x_aload_0, x_iload_1, x_iv_1, x_kx1, x_kx0, x_istore_2, x_iload_2, x_iconst, x_ic_ne, x_getf, c_gf_5_15, x_sipush, x_ic_ge, c_gf_5_14, c_gf_5_6, c_gf_5_5, x_bipush, x_imul, x_iaload, x_laload, x_lastore, x_dup_int, x_dup_ref, x_iadd, x_putf, c_pf_5_15, c_gf_5_19, c_pf_5_19, x_istore_3, x_iload_3, x_if_eq, x_iinc_3, x_goto, c_gf_5_16, x_isub, c_pf_5_16, c_gf_5_17, c_pf_5_17, x_ret_v, jB5_dropped_54, jB5_dropped_64, jB5_dropped_66, jB5_dropped_101, jB5_dropped_107, jB5_dropped_121, jB5_dropped_122, jB5_dropped_140, jB5_dropped_141, uB5_dropped_43, uB5_dropped_54, uB5_dropped_64, uB5_dropped_101, uB5_dropped_107, uB5_dropped_121, uB5_dropped_122, uB5_dropped_140, uB5_dropped_141, n_0, n_1, n_2, n_3, n_4, n_5, n_6, n_7, n_8, n_9, n_10, n_12, n_13, n_15, n_16, n_20, n_24, n_60, n_64, n_72, n_96, n_192, n_256, n_400, n_808, n_960, n_1440, n_2048, n_2720, n_16777215, n_1000000, l_0, l_1, l_8, l_20, l_60, l_lt_t, l_lt_f, l_ge_t, l_ge_f, l_eq_t, l_eq_f, lN_i, nI_l, i_lt_t, i_lt_f, i_le_t, i_le_f, i_eq_t, i_eq_f, ↓n_m1, ↓n_m2, i_m1, i_m1s, i_m1lt, i_m1le, i_m1l2, i_m1l3, i_mm, nI_add, pk_mul, i_sub, i_dec, i_dec0, i_s01, i_div, Nat.reduceAdd, Nat.reduceSub, Nat.reduceMul, Nat.zero_add, if_true, if_false, not_true, not_false_eq_true, hq, m_free, Nat.sub_zero, Nat.reduceEqDiff]
    · simp (disch := first | exact q_two_i _ | exact q_two_r _ | exact q_two_n | exact q_sh0 | exact q_sh1 _ | exact q_sh2 _ _ | exact q_sh3 _ _ _ | exact q_sh4 _ _ _ _ | exact c_cl_5 hq | exact c_tc_5_3 _ | exact c_tc_5_7 _ | exact c_tc_5_8 _ | exact c_tc_5_12 _ | exact c_tc_5_13 _ | exact c_tc_5_15 _ | exact c_tc_5_16 _ | exact c_tc_5_17 _ | exact c_tc_5_18 _ | exact c_tc_5_19 _ | exact c_tc_5_21 _ | exact c_tc_5_22 _ | exact c_tc_5_20a | exact c_tc_5_20b | exact z_01 | exact z_11 | exact nz_24 | exact nz_16 | assumption | omega) only [x_aload_0, x_iload_1, x_iv_1, x_kx1, x_kx0, x_istore_2, x_iload_2, x_iconst, x_ic_ne, x_getf, c_gf_5_15, x_sipush, x_ic_ge, c_gf_5_14, c_gf_5_6, c_gf_5_5, x_bipush, x_imul, x_iaload, x_laload, x_lastore, x_dup_int, x_dup_ref, x_iadd, x_putf, c_pf_5_15, c_gf_5_19, c_pf_5_19, x_istore_3, x_iload_3, x_if_eq, x_iinc_3, x_goto, c_gf_5_16, x_isub, c_pf_5_16, c_gf_5_17, c_pf_5_17, x_ret_v, jB5_dropped_54, jB5_dropped_64, jB5_dropped_66, jB5_dropped_101, jB5_dropped_107, jB5_dropped_121, jB5_dropped_122, jB5_dropped_140, jB5_dropped_141, uB5_dropped_43, uB5_dropped_54, uB5_dropped_64, uB5_dropped_101, uB5_dropped_107, uB5_dropped_121, uB5_dropped_122, uB5_dropped_140, uB5_dropped_141, n_0, n_1, n_2, n_3, n_4, n_5, n_6, n_7, n_8, n_9, n_10, n_12, n_13, n_15, n_16, n_20, n_24, n_60, n_64, n_72, n_96, n_192, n_256, n_400, n_808, n_960, n_1440, n_2048, n_2720, n_16777215, n_1000000, l_0, l_1, l_8, l_20, l_60, l_lt_t, l_lt_f, l_ge_t, l_ge_f, l_eq_t, l_eq_f, lN_i, nI_l, i_lt_t, i_lt_f, i_le_t, i_le_f, i_eq_t, i_eq_f, ↓n_m1, ↓n_m2, i_m1, i_m1s, i_m1lt, i_m1le, i_m1l2, i_m1l3, i_mm, nI_add, pk_mul, i_sub, i_dec, i_dec0, i_s01, i_div, Nat.reduceAdd, Nat.reduceSub, Nat.reduceMul, Nat.zero_add, if_true, if_false, not_true, not_false_eq_true, hq, m_free, Nat.sub_zero, h4, h5]
theorem m_dH {sh : Nat} {kd kz : Nat → Nat} {ko : Nat → Int32} {q1 q2 q3 cp : Nat} {so ki : Nat → Nat} {nu : Nat → Int64} {no sp : Nat} {hn sl ah : Nat → Nat} {he fr : Nat} {ou : Nat → Int64} {tol bx rws ma dpd isl inn atk : Nat} {g : Nat → Option am_E} {n m d x : Nat} (hq : OKq q1 q2 q3) (hx : x < cp) (hc : cp < 100000) (hs : so x < 24) (hkd : ¬ kd (so x) = 2) (hk : kd (so x) < 100) : ev (d + 2) 119 [.ref 18, .int (nI x)] (n, m, RO sh kd kz ko q1 q2 q3 cp so ki nu no sp hn sl ah he fr ou tol bx rws ma dpd isl inn atk g) = am_X (ev (d + 1)) B5_dropped_0 (B5_dropped_66, [some (.ref 18), some (.int (nI x)), some (.int (nI (kd (so x)))), some (.int (nI 0))], [], (n, m, RO sh kd kz ko q1 q2 q3 cp so ki nu no sp hn sl ah he fr ou tol bx rws ma dpd isl inn atk g)) := by
  simp (disch := first | exact q_two_i _ | exact q_two_r _ | exact q_two_n | exact q_sh0 | exact q_sh1 _ | exact q_sh2 _ _ | exact q_sh3 _ _ _ | exact q_sh4 _ _ _ _ | exact c_cl_5 hq | exact c_tc_5_3 _ | exact c_tc_5_7 _ | exact c_tc_5_8 _ | exact c_tc_5_12 _ | exact c_tc_5_13 _ | exact c_tc_5_15 _ | exact c_tc_5_16 _ | exact c_tc_5_17 _ | exact c_tc_5_18 _ | exact c_tc_5_19 _ | exact c_tc_5_21 _ | exact c_tc_5_22 _ | exact c_tc_5_20a | exact c_tc_5_20b | exact z_01 | exact z_11 | exact nz_24 | exact nz_16 | assumption | omega) only [eB5_dropped, x_aload_0, x_iload_1, x_iv_1, x_kx1, x_kx0, x_istore_2, x_iload_2, x_iconst, x_ic_ne, x_getf, c_gf_5_15, x_sipush, x_ic_ge, c_gf_5_14, c_gf_5_6, c_gf_5_5, x_bipush, x_imul, x_iaload, x_laload, x_lastore, x_dup_int, x_dup_ref, x_iadd, x_putf, c_pf_5_15, c_gf_5_19, c_pf_5_19, x_istore_3, x_iload_3, x_if_eq, x_iinc_3, x_goto, c_gf_5_16, x_isub, c_pf_5_16, c_gf_5_17, c_pf_5_17, x_ret_v, jB5_dropped_54, jB5_dropped_64, jB5_dropped_66, jB5_dropped_101, jB5_dropped_107, jB5_dropped_121, jB5_dropped_122, jB5_dropped_140, jB5_dropped_141, uB5_dropped_0, uB5_dropped_43, uB5_dropped_54, uB5_dropped_64, uB5_dropped_101, uB5_dropped_107, uB5_dropped_121, uB5_dropped_122, uB5_dropped_140, uB5_dropped_141, n_0, n_1, n_2, n_3, n_4, n_5, n_6, n_7, n_8, n_9, n_10, n_12, n_13, n_15, n_16, n_20, n_24, n_60, n_64, n_72, n_96, n_192, n_256, n_400, n_808, n_960, n_1440, n_2048, n_2720, n_16777215, n_1000000, l_0, l_1, l_8, l_20, l_60, l_lt_t, l_lt_f, l_ge_t, l_ge_f, l_eq_t, l_eq_f, lN_i, nI_l, i_lt_t, i_lt_f, i_le_t, i_le_f, i_eq_t, i_eq_f, ↓n_m1, ↓n_m2, i_m1, i_m1s, i_m1lt, i_m1le, i_m1l2, i_m1l3, i_mm, nI_add, pk_mul, i_sub, i_dec, i_dec0, i_s01, i_div, Nat.reduceAdd, Nat.reduceSub, Nat.reduceMul, Nat.zero_add, if_true, if_false, not_true, not_false_eq_true, hq, m_kind]
theorem m_dH2 {sh : Nat} {kd kz : Nat → Nat} {ko : Nat → Int32} {q1 q2 q3 cp : Nat} {so ki : Nat → Nat} {nu : Nat → Int64} {no sp : Nat} {hn sl ah : Nat → Nat} {he fr : Nat} {ou : Nat → Int64} {tol bx rws ma dpd isl inn atk : Nat} {g : Nat → Option am_E} {n m d x : Nat} (hq : OKq q1 q2 q3) (hx : x < cp) (hc : cp < 100000) (hs : so x < 24) (hkd : kd (so x) = 2) (hk0 : ki (8 * x) < cp) (ht : tol ≤ 400) : ev (d + 2) 119 [.ref 18, .int (nI x)] (n, m, RO sh kd kz ko q1 q2 q3 cp so ki nu no sp hn sl ah he fr ou tol bx rws ma dpd isl inn atk g) = am_X (ev (d + 1)) B5_dropped_0 (B5_dropped_66, [some (.ref 18), some (.int (nI x)), some (.int (nI (kd (so x)))), some (.int (nI 0))], [], (n, m, RO sh kd kz ko q1 q2 q3 cp so ki nu no sp hn sl ah he fr (o1 ou tol (nu (ki (8 * x)))) (n1 tol) bx rws ma (dpd + 1) isl inn atk g)) := by
  by_cases h : tol < 400
  · simp only [o1, n1, if_pos h]
    simp (disch := first | exact q_two_i _ | exact q_two_r _ | exact q_two_n | exact q_sh0 | exact q_sh1 _ | exact q_sh2 _ _ | exact q_sh3 _ _ _ | exact q_sh4 _ _ _ _ | exact c_cl_5 hq | exact c_tc_5_3 _ | exact c_tc_5_7 _ | exact c_tc_5_8 _ | exact c_tc_5_12 _ | exact c_tc_5_13 _ | exact c_tc_5_15 _ | exact c_tc_5_16 _ | exact c_tc_5_17 _ | exact c_tc_5_18 _ | exact c_tc_5_19 _ | exact c_tc_5_21 _ | exact c_tc_5_22 _ | exact c_tc_5_20a | exact c_tc_5_20b | exact z_01 | exact z_11 | exact nz_24 | exact nz_16 | assumption | omega) only [eB5_dropped, x_aload_0, x_iload_1, x_iv_1, x_kx1, x_kx0, x_istore_2, x_iload_2, x_iconst, x_ic_ne, x_getf, c_gf_5_15, x_sipush, x_ic_ge, c_gf_5_14, c_gf_5_6, c_gf_5_5, x_bipush, x_imul, x_iaload, x_laload, x_lastore, x_dup_int, x_dup_ref, x_iadd, x_putf, c_pf_5_15, c_gf_5_19, c_pf_5_19, x_istore_3, x_iload_3, x_if_eq, x_iinc_3, x_goto, c_gf_5_16, x_isub, c_pf_5_16, c_gf_5_17, c_pf_5_17, x_ret_v, jB5_dropped_54, jB5_dropped_64, jB5_dropped_66, jB5_dropped_101, jB5_dropped_107, jB5_dropped_121, jB5_dropped_122, jB5_dropped_140, jB5_dropped_141, uB5_dropped_0, uB5_dropped_43, uB5_dropped_54, uB5_dropped_64, uB5_dropped_101, uB5_dropped_107, uB5_dropped_121, uB5_dropped_122, uB5_dropped_140, uB5_dropped_141, n_0, n_1, n_2, n_3, n_4, n_5, n_6, n_7, n_8, n_9, n_10, n_12, n_13, n_15, n_16, n_20, n_24, n_60, n_64, n_72, n_96, n_192, n_256, n_400, n_808, n_960, n_1440, n_2048, n_2720, n_16777215, n_1000000, l_0, l_1, l_8, l_20, l_60, l_lt_t, l_lt_f, l_ge_t, l_ge_f, l_eq_t, l_eq_f, lN_i, nI_l, i_lt_t, i_lt_f, i_le_t, i_le_f, i_eq_t, i_eq_f, ↓n_m1, ↓n_m2, i_m1, i_m1s, i_m1lt, i_m1le, i_m1l2, i_m1l3, i_mm, nI_add, pk_mul, i_sub, i_dec, i_dec0, i_s01, i_div, Nat.reduceAdd, Nat.reduceSub, Nat.reduceMul, Nat.zero_add, if_true, if_false, not_true, not_false_eq_true, hq, m_kind, hkd, c_g_q2, c_g_q3, c_p_28]
  · simp only [o1, n1, if_neg h]
    simp (disch := first | exact q_two_i _ | exact q_two_r _ | exact q_two_n | exact q_sh0 | exact q_sh1 _ | exact q_sh2 _ _ | exact q_sh3 _ _ _ | exact q_sh4 _ _ _ _ | exact c_cl_5 hq | exact c_tc_5_3 _ | exact c_tc_5_7 _ | exact c_tc_5_8 _ | exact c_tc_5_12 _ | exact c_tc_5_13 _ | exact c_tc_5_15 _ | exact c_tc_5_16 _ | exact c_tc_5_17 _ | exact c_tc_5_18 _ | exact c_tc_5_19 _ | exact c_tc_5_21 _ | exact c_tc_5_22 _ | exact c_tc_5_20a | exact c_tc_5_20b | exact z_01 | exact z_11 | exact nz_24 | exact nz_16 | assumption | omega) only [eB5_dropped, x_aload_0, x_iload_1, x_iv_1, x_kx1, x_kx0, x_istore_2, x_iload_2, x_iconst, x_ic_ne, x_getf, c_gf_5_15, x_sipush, x_ic_ge, c_gf_5_14, c_gf_5_6, c_gf_5_5, x_bipush, x_imul, x_iaload, x_laload, x_lastore, x_dup_int, x_dup_ref, x_iadd, x_putf, c_pf_5_15, c_gf_5_19, c_pf_5_19, x_istore_3, x_iload_3, x_if_eq, x_iinc_3, x_goto, c_gf_5_16, x_isub, c_pf_5_16, c_gf_5_17, c_pf_5_17, x_ret_v, jB5_dropped_54, jB5_dropped_64, jB5_dropped_66, jB5_dropped_101, jB5_dropped_107, jB5_dropped_121, jB5_dropped_122, jB5_dropped_140, jB5_dropped_141, uB5_dropped_0, uB5_dropped_43, uB5_dropped_54, uB5_dropped_64, uB5_dropped_101, uB5_dropped_107, uB5_dropped_121, uB5_dropped_122, uB5_dropped_140, uB5_dropped_141, n_0, n_1, n_2, n_3, n_4, n_5, n_6, n_7, n_8, n_9, n_10, n_12, n_13, n_15, n_16, n_20, n_24, n_60, n_64, n_72, n_96, n_192, n_256, n_400, n_808, n_960, n_1440, n_2048, n_2720, n_16777215, n_1000000, l_0, l_1, l_8, l_20, l_60, l_lt_t, l_lt_f, l_ge_t, l_ge_f, l_eq_t, l_eq_f, lN_i, nI_l, i_lt_t, i_lt_f, i_le_t, i_le_f, i_eq_t, i_eq_f, ↓n_m1, ↓n_m2, i_m1, i_m1s, i_m1lt, i_m1le, i_m1l2, i_m1l3, i_mm, nI_add, pk_mul, i_sub, i_dec, i_dec0, i_s01, i_div, Nat.reduceAdd, Nat.reduceSub, Nat.reduceMul, Nat.zero_add, if_true, if_false, not_true, not_false_eq_true, hq, m_kind, hkd]
/-- all trees of F are dropped, which are the kids of x from j on -/
def m_L (F : Fo) : Prop := ∀ {sh : Nat} {kd kz : Nat → Nat} {ko : Nat → Int32} {q1 q2 q3 cp : Nat} {so : Nat → Nat} {nu : Nat → Int64} {no : Nat} {hn sl ah : Nat → Nat} {he fr ma isl inn atk : Nat} {g : Nat → Option am_E} {n m d x kx : Nat} (ki : Nat → Nat) (sp : Nat) (ou : Nat → Int64) (tol bx rws dpd : Nat) (fl : List Nat) (j : Nat), OKq q1 q2 q3 → cp < 100000 → (q1 ≠ 0 ∧ q2 ≠ 0 ∧ q3 ≠ 0) → x < cp → sh ≤ 24 → (∀ s, s < sh → kd s < 100) → j + f_len F ≤ 8 → f_okT sh kd ko F → f_okR so ki nu F → (∀ z, 0 < f_cx z F → 1 ≤ z ∧ z < cp) → (∀ i, j + i < 8 → ki (8 * x + (j + i)) = f_rt F i) → (∀ z, f_cx z F + fl.count z + (if z = x then 1 else 0) ≤ 1) → fr_ok ki sp fl → f_nk kd 4 F ≤ bx → f_nk kd 5 F ≤ rws → tol ≤ 400 →
  ∃ ki' sp' fl', am_X (ev (d + f_h F + 1)) B5_dropped_0 (B5_dropped_66, [some (.ref 18), some (.int (nI x)), some (.int (nI kx)), some (.int (nI j))], [], (n, m, RO sh kd kz ko q1 q2 q3 cp so ki nu no sp hn sl ah he fr ou tol bx rws ma dpd isl inn atk g)) = am_X (ev (d + f_h F + 1)) B5_dropped_0 (B5_dropped_66, [some (.ref 18), some (.int (nI x)), some (.int (nI kx)), some (.int (nI (j + f_len F)))], [], (n, m, RO sh kd kz ko q1 q2 q3 cp so (ki') nu no (sp') hn sl ah he fr ((outp ou tol (f_tl kd F)).1) ((outp ou tol (f_tl kd F)).2) (bx - f_nk kd 4 F) (rws - f_nk kd 5 F) ma (dpd + f_nk kd 2 F) isl inn atk g)) ∧ fr_ok ki' sp' fl' ∧ (∀ z, fl'.count z = fl.count z + f_cx z F) ∧ (∀ z, f_cx z F = 0 → ∀ i, i < 8 → ki' (8 * z + i) = ki (8 * z + i)) ∧ (outp ou tol (f_tl kd F)).2 ≤ 400
theorem outp_le : ∀ (l : List Int64) (os : Nat → Int64) (oc : Nat), oc ≤ 400 → (outp os oc l).2 ≤ 400
  | [], _, _, h => h
  | v :: l, os, oc, h => outp_le l (o1 os oc v) (n1 oc) (n1_le h)
theorem f_len8 {ks : Nat → Nat} {ps : Nat → Int32} {s : Nat} {v : Int64} {K : Fo} (h : f_ty ks ps s v K) : f_len K ≤ 8 := by
  rcases h with ⟨h, rfl⟩ | ⟨h, hl, hp⟩ | ⟨h, t, ht, hv, ⟨hm, rfl⟩ | ⟨hl, hp⟩⟩ | ⟨h, hl, hp⟩ | ⟨h, hv, hl, hp⟩
  · simp [f_len]
  · rw [hl]; unfold s_np; split <;> (try split) <;> omega
  · simp [f_len]
  · omega
  · omega
  · exact hl
/-- one tree, out of its kids -/
theorem m_T {K : Fo} (hL : m_L K) {sh : Nat} {kd kz : Nat → Nat} {ko : Nat → Int32} {q1 q2 q3 cp : Nat} {so ki : Nat → Nat} {nu : Nat → Int64} {no sp : Nat} {hn sl ah : Nat → Nat} {he fr : Nat} {ou : Nat → Int64} {tol bx rws ma dpd isl inn atk : Nat} {g : Nat → Option am_E} {n m d s : Nat} {k : Nat × Nat} {v : Int64} (fl : List Nat) (hq : OKq q1 q2 q3) (hc : cp < 100000) (h3 : q1 ≠ 0 ∧ q2 ≠ 0 ∧ q3 ≠ 0) (hsh : sh ≤ 24) (hkd : ∀ s, s < sh → kd s < 100) (hT : f_okT sh kd ko (.inner s k v K .leaf)) (hR : f_okR so ki nu (.inner s k v K .leaf)) (hz : ∀ z, 0 < f_cx z (.inner s k v K .leaf) → 1 ≤ z ∧ z < cp) (hu : ∀ z, f_cx z (.inner s k v K .leaf) + fl.count z ≤ 1) (hfr : fr_ok ki sp fl) (hb : f_nk kd 4 (.inner s k v K .leaf) ≤ bx) (hr : f_nk kd 5 (.inner s k v K .leaf) ≤ rws) (ht : tol ≤ 400) :
    ∃ ki' sp' fl', ev (d + f_h K + 2) 119 [.ref 18, .int (nI k.1)] (n, m, RO sh kd kz ko q1 q2 q3 cp so ki nu no sp hn sl ah he fr ou tol bx rws ma dpd isl inn atk g) = some (none, (n, m, RO sh kd kz ko q1 q2 q3 cp so (ki') nu no (sp') hn sl ah he fr ((outp ou tol (f_tl kd (.inner s k v K .leaf))).1) ((outp ou tol (f_tl kd (.inner s k v K .leaf))).2) (bx - f_nk kd 4 (.inner s k v K .leaf)) (rws - f_nk kd 5 (.inner s k v K .leaf)) ma (dpd + f_nk kd 2 (.inner s k v K .leaf)) isl inn atk g)) ∧ fr_ok ki' sp' fl' ∧ (∀ z, fl'.count z = fl.count z + f_cx z (.inner s k v K .leaf)) ∧ (∀ z, f_cx z (.inner s k v K .leaf) = 0 → ∀ i, i < 8 → ki' (8 * z + i) = ki (8 * z + i)) := by
  obtain ⟨hs, hty, hTK, -⟩ := hT
  obtain ⟨⟨r1, r2, r3⟩, hRK, -⟩ := hR
  have hx := hz k.1 (by simp only [f_cx, if_true]; omega)
  have hl8 := f_len8 hty
  have hux : ∀ z, f_cx z K + fl.count z + (if z = k.1 then 1 else 0) ≤ 1 := fun z => by
    have h1 := hu z
    simp only [f_cx] at h1
    by_cases e : z = k.1
    · subst e; simp only [if_true] at h1 ⊢; omega
    · simp only [e, Ne.symm e, if_false] at h1 ⊢; omega
  have hzK : ∀ z, 0 < f_cx z K → 1 ≤ z ∧ z < cp := fun z h => hz z (by simp only [f_cx]; omega)
  have hkx : kd s < 100 := hkd s hs
  have hs24 : so k.1 < 24 := by omega
  -- what is told of the node itself
  obtain ⟨ou1, tol1, dpd1, e0, eo, ed, ht1⟩ : ∃ (ou1 : Nat → Int64) (tol1 dpd1 : Nat), ev (d + f_h K + 2) 119 [.ref 18, .int (nI k.1)] (n, m, RO sh kd kz ko q1 q2 q3 cp so ki nu no sp hn sl ah he fr ou tol bx rws ma dpd isl inn atk g) = am_X (ev (d + f_h K + 1)) B5_dropped_0 (B5_dropped_66, [some (.ref 18), some (.int (nI k.1)), some (.int (nI (kd s))), some (.int (nI 0))], [], (n, m, RO sh kd kz ko q1 q2 q3 cp so ki nu no sp hn sl ah he fr (ou1) (tol1) bx rws ma (dpd1) isl inn atk g)) ∧ outp ou1 tol1 (f_tl kd K) = outp ou tol (f_tl kd (.inner s k v K .leaf)) ∧ dpd1 + f_nk kd 2 K = dpd + f_nk kd 2 (.inner s k v K .leaf) ∧ tol1 ≤ 400 := by
    by_cases h2 : kd s = 2
    · have hl1 : 0 < f_len K := by
        rcases hty with ⟨h, _⟩ | ⟨h, hl, hp⟩ | ⟨h, _⟩ | ⟨h, _⟩ | ⟨h, _⟩
        · omega
        · rw [hl]; unfold s_np; split <;> (try split) <;> omega
        · omega
        · omega
        · omega
      obtain ⟨p0, k0, v0, K0, N0, rfl, hN⟩ := f_lenS (K := K) (n := f_len K - 1) (by omega)
      have e1 := r3 0 (by decide)
      simp only [f_rt, Nat.add_zero] at e1
      have e2 := hRK.1.2.1
      have hk0 := hzK k0.1 (by simp only [f_cx, if_true]; omega)
      refine ⟨o1 ou tol v0, n1 tol, dpd + 1, ?_, ?_, ?_, n1_le ht⟩
      · have e3 := m_dH2 (sh := sh) (kd := kd) (kz := kz) (ko := ko) (q1 := q1) (q2 := q2) (q3 := q3) (cp := cp) (so := so) (ki := ki) (nu := nu) (no := no) (sp := sp) (hn := hn) (sl := sl) (ah := ah) (he := he) (fr := fr) (ou := ou) (tol := tol) (bx := bx) (rws := rws) (ma := ma) (dpd := dpd) (isl := isl) (inn := inn) (atk := atk) (g := g) (n := n) (m := m) (d := d + f_h (.inner p0 k0 v0 K0 N0)) (x := k.1) hq hx.2 hc hs24 (by rw [r1]; exact h2) (by omega) ht
        rw [e1, e2, r1] at e3
        exact e3
      · simp only [f_tl, h2, if_true, f_v, List.append_nil, List.cons_append, List.nil_append, outp]
      · simp only [f_nk, h2, if_true]; omega
    · refine ⟨ou, tol, dpd, ?_, ?_, ?_, ht⟩
      · have e3 := m_dH (sh := sh) (kd := kd) (kz := kz) (ko := ko) (q1 := q1) (q2 := q2) (q3 := q3) (cp := cp) (so := so) (ki := ki) (nu := nu) (no := no) (sp := sp) (hn := hn) (sl := sl) (ah := ah) (he := he) (fr := fr) (ou := ou) (tol := tol) (bx := bx) (rws := rws) (ma := ma) (dpd := dpd) (isl := isl) (inn := inn) (atk := atk) (g := g) (n := n) (m := m) (d := d + f_h K) (x := k.1) hq hx.2 hc hs24 (by rw [r1]; exact h2) (by rw [r1]; exact hkx)
        rw [r1] at e3
        exact e3
      · simp only [f_tl, h2, if_false, List.append_nil, List.nil_append]
      · simp only [f_nk, h2, if_false]; omega
  obtain ⟨ki1, sp1, fl1, g1, g2, g3, g4, g5⟩ := hL (sh := sh) (kd := kd) (kz := kz) (ko := ko) (q1 := q1) (q2 := q2) (q3 := q3) (cp := cp) (so := so) (nu := nu) (no := no) (hn := hn) (sl := sl) (ah := ah) (he := he) (fr := fr) (ma := ma) (isl := isl) (inn := inn) (atk := atk) (g := g) (n := n) (m := m) (d := d) (x := k.1) (kx := kd s) ki sp ou1 tol1 bx rws dpd1 fl 0 hq hc h3 hx.2 hsh hkd (by omega) hTK hRK hzK (fun i hi => by rw [Nat.zero_add]; exact r3 i (by omega)) hux hfr (by simp only [f_nk] at hb; omega) (by simp only [f_nk] at hr; omega) ht1
  rw [Nat.zero_add] at g1
  have hEmpty : ∀ i, f_len K ≤ i → i < 8 → ki1 (8 * k.1 + i) = 0 := fun i h1 h2 => by
    have h4 := hux k.1
    simp only [if_true] at h4
    rw [g4 k.1 (by omega) i h2, r3 i h2, f_rt_0 K i h1]
  refine ⟨upN ki1 (8 * k.1) sp1, k.1, k.1 :: fl1, ?_, ?_, ?_, ?_⟩
  · rw [e0, g1, m_dE hq hc hx.2 (8 - f_len K) (f_len K) (by omega) hEmpty]
    rw [m_dT hq hkx hx.2 hc h3.2.1 (fun h => by simp only [f_nk, h, if_true] at hb; omega) (fun h => by simp only [f_nk, h, if_true] at hr; omega)]
    rw [eo]
    have q1' : bx - f_nk kd 4 K - (if kd s = 4 then 1 else 0) = bx - f_nk kd 4 (.inner s k v K .leaf) := by simp only [f_nk]; omega
    have q2' : rws - f_nk kd 5 K - (if kd s = 5 then 1 else 0) = rws - f_nk kd 5 (.inner s k v K .leaf) := by simp only [f_nk]; omega
    rw [q1', q2', ed]
  · refine ⟨rfl, by omega, ?_⟩
    rw [upN_s]
    refine fr_keep g2 (fun z hz2 => ?_)
    rw [upN_n]
    intro e
    have hzk : z = k.1 := by omega
    subst hzk
    have h1 := g3 k.1
    have h2 := hux k.1
    have h5 := List.count_pos_iff.mpr hz2
    simp only [if_true] at h2
    omega
  · intro z
    have h1 := g3 z
    rw [List.count_cons, h1]
    simp only [f_cx, beq_iff_eq]
    split <;> simp_all <;> omega
  · intro z hz0 i hi
    simp only [f_cx] at hz0
    have hne : k.1 ≠ z := fun e => by rw [if_pos e] at hz0; omega
    rw [upN_n _ _ (by omega), g4 z (by omega) i hi]
