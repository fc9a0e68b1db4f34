/-! make: records, the step. -/
theorem f_ext_app {zs : Nat → Nat} {w : Bool} : ∀ (F G : Fo), f_ext zs (f_app F G) w = f_ext zs F w + f_ext zs G w
  | .leaf, G => by simp only [f_app, f_ext, Nat.zero_add]
  | .inner s k v K N, G => by simp only [f_app, f_ext, f_ext_app N G]; omega
theorem f_ext1 {zs : Nat → Nat} {F : Fo} (h : f_len F = 1) : f_ext zs F false = zs (f_sh F 0) := by
  obtain ⟨s, k, v, K, rfl⟩ := f_one h
  simp [f_ext, f_sh]
theorem okC_w {ks zs : Nat → Nat} {ce : Nat → Int64} {rl : Nat → Nat} {F : Fo} {a : Nat} {w : Bool} (hl : f_len F ≤ 1) (h : f_okC ks zs ce rl F a false) : f_okC ks zs ce rl F a w := by
  cases F with
  | leaf => trivial
  | inner s k v K N =>
    have : f_len N = 0 := by simp only [f_len] at hl; omega
    obtain rfl := f_len0 this
    exact ⟨h.1, trivial⟩
/-- a root's tree at another place -/
theorem okC_to {kn : Nat} {ks zs : Nat → Nat} {ps : Nat → Int32} {ce ce2 : Nat → Int64} {bt rt rl rl2 : Nat → Nat} {nb nr : Nat} {R : Nat → Fo} (hS : s_ok kn ks zs ps) (hk : kn ≤ 24) (hT : IT kn ks ps R) (hC : IC1 ks zs ce bt rt rl nb nr R) (h2 : ∀ j, bt j = 1 → ∀ i, i < 8 → ce2 (960 + j * 8 + i) = ce (960 + j * 8 + i)) (h3 : ∀ j, rt j = 1 → rl2 j = rl j ∧ ∀ i, i < 64 → ce2 (1440 + j * 64 + i) = ce (1440 + j * 64 + i)) {r a : Nat} (hr : r < 120) (h1 : ∀ i, i < f_ext zs (R r) false → ce2 (a + i) = ce (8 * r + i)) : f_okC ks zs ce2 rl2 (R r) a false := by
  refine f_okC_mv hS hk (R r) (8 * r) a false (hT r hr).2 (hC.1 r hr) h1 (fun j hj => h2 j ?_) (fun j hj => h3 j ?_)
  · have := rF_ge (f_cb ks 4 j) R hr
    have := hC.2.1 j
    omega
  · have := rF_ge (f_cb ks 5 j) R hr
    have := hC.2.2.1 j
    omega
theorem okC_row {kn : Nat} {ks zs : Nat → Nat} {ps : Nat → Int32} {ce ce2 : Nat → Int64} {bt rt rl rl2 : Nat → Nat} {nb nr : Nat} {R : Nat → Fo} {w : Bool} (hS : s_ok kn ks zs ps) (hk : kn ≤ 24) (hT : IT kn ks ps R) (hC : IC1 ks zs ce bt rt rl nb nr R) (h2 : ∀ j, bt j = 1 → ∀ i, i < 8 → ce2 (960 + j * 8 + i) = ce (960 + j * 8 + i)) (h3 : ∀ j, rt j = 1 → rl2 j = rl j ∧ ∀ i, i < 64 → ce2 (1440 + j * 64 + i) = ce (1440 + j * 64 + i)) : ∀ (z b a : Nat), b + z ≤ 120 → (∀ i, i < z → ∀ t, t < f_ext zs (R (b + i)) false → ce2 (a + f_ext zs (f_row R b i) w + t) = ce (8 * (b + i) + t)) → f_okC ks zs ce2 rl2 (f_row R b z) a w
  | 0, _, _, _, _ => trivial
  | z + 1, b, a, hb, h => by
    simp only [f_row]
    refine (f_app_C _ _ _ _).mpr ⟨okC_w (hT b (by omega)).1 (okC_to hS hk hT hC h2 h3 (by omega) (fun i hi => ?_)), okC_row hS hk hT hC h2 h3 z (b + 1) _ (by omega) (fun i hi t ht => ?_)⟩
    · have := h 0 (by omega) i hi
      simpa [f_row, f_ext] using this
    · have e1 : b + 1 + i = b + (i + 1) := by omega
      rw [e1] at ht ⊢
      have := h (i + 1) (by omega) t ht
      simp only [f_row, f_ext_app] at this
      rw [← this, Nat.add_assoc a]
theorem c_mkR1 {kn : Nat} {ks zs : Nat → Nat} {ps : Nat → Int32} {ce : Nat → Int64} {bt rt rl : Nat → Nat} {nb nr : Nat} {hsh hst : Nat → Nat} {ssh : Nat → Int32} {ih th : Nat} {wt : Nat → Nat} {os : Nat → Int64} {wn oc dr tm : Nat} {fa : Int32} {g : Nat → Option am_E} {n m d : Nat} (s p0 b0 : Nat) (hk : kn ≤ 24) (hs : s < kn) (tk : ks s = 1 ∨ ks s = 2) (h : 0 < th) (h2 : th ≤ 12) (h4 : ih ≤ 24) (hb : hst (th - 1) = b0) (h3 : b0 + 1 ≤ ih) (np : s_np ps s = 1) (nm : ¬ ps (s * 3 + 0) = mI) (h12 : ps (s * 3 + 1) = mI → ps (s * 3 + 2) = mI) (e0 : ps (s * 3 + 0) = nI p0) (l0 : p0 < kn) (z0 : zs p0 ≤ 8) (ht : ∀ t, t < 1 → nI (hsh (ih - 1 + t)) = ps (s * 3 + t)) : ev (d + 4) 86 [.ref 1, .int (nI s)] (n, m, CO kn ks zs ps ce bt rt rl nb nr hsh hst ssh ih th wt os wn oc dr tm fa g) = some (some (.int (nI 1)), (n, m, CO kn ks zs ps (va_cpy ce ce ((ih - 1) * 8) ((ih - 1) * 8) (zs p0)) bt rt rl nb nr (upN hsh (ih - 1) s) hst ssh (ih - 1 + 1) th wt os wn oc dr (tm + (ks s - 1)) fa g)) := by
  have e0' : ps (s * 3) = nI p0 := e0
  rcases tk with tk | tk
  · rw [tk]
    simp (disch := first | exact q_two_i _ | exact q_two_r _ | exact q_two_n | exact q_sh0 | exact q_sh1 _ | exact q_sh2 _ _ | exact q_sh3 _ _ _ | exact q_sh4 _ _ _ _ | exact c_cl_0 .. | exact c_cl_1 .. | exact c_cl_2 .. | exact c_cl_3 .. | exact c_cl_4 .. | exact c_tc_4_4 _ | exact c_tc_4_5 _ | exact c_tc_3_3 _ | exact c_tc_2_4 _ | exact c_tc_2_5 _ | exact c_tc_1_3 _ | exact c_tc_1_4 _ | exact c_tc_0_4 _ | exact c_tc_0_5 _ | exact c_tc_0_6 _ | exact z_01 | exact z_11 | exact nz_24 | exact nz_16 | assumption | omega) only [eB4_makeRecord, x_aload_0, x_getf, c_gf_4_0, x_iload_1, x_iv_1, x_kx1, x_kx0, x_istore_2, x_iload_2, x_iv_2, x_if_ne, x_iconst, x_ret_i, c_gf_4_2, x_iv_0, x_isub, x_istore_3, x_iload_3, x_it_1, x_istore_4, x_istore_5, x_iload_5, x_ic_ge, x_istore_6, c_gf_4_1, x_iadd, x_iload_4, x_iload_6, x_iv_3, x_iinc_5, x_goto, x_ic_ne, x_dup_int, x_dup_ref, c_gf_4_4, x_putf, c_pf_4_4, jB4_makeRecord_20, jB4_makeRecord_39, jB4_makeRecord_95, jB4_makeRecord_133, uB4_makeRecord_0, uB4_makeRecord_20, uB4_makeRecord_39, uB4_makeRecord_87, uB4_makeRecord_95, uB4_makeRecord_133, n_0, n_1, n_2, n_3, n_4, n_5, n_6, n_7, n_8, n_9, n_10, n_12, n_13, n_15, n_16, n_20, n_24, n_60, n_64, n_72, n_96, n_192, n_256, n_400, n_808, n_960, n_1440, n_2048, n_2720, n_16777215, n_1000000, l_0, l_1, l_8, l_20, l_60, l_lt_t, l_lt_f, l_ge_t, l_ge_f, l_eq_t, l_eq_f, lN_i, nI_l, i_lt_t, i_lt_f, i_le_t, i_le_f, i_eq_t, i_eq_f, ↓n_m1, ↓n_m2, i_m1, i_m1s, i_m1lt, i_m1le, i_m1l2, i_m1l3, i_mm, nI_add, pk_mul, i_sub, i_dec, i_dec0, i_s01, i_div, Nat.reduceAdd, Nat.reduceSub, Nat.reduceMul, Nat.zero_add, if_true, if_false, not_true, not_false_eq_true, ↓reduceIte, c_np, np, c_hef, c_hc, c_hAt, c_part, e0, e0', c_size, c_move, c_off, c_lay, c_kind, tk, Nat.add_zero]
  · rw [tk]
    simp (disch := first | exact q_two_i _ | exact q_two_r _ | exact q_two_n | exact q_sh0 | exact q_sh1 _ | exact q_sh2 _ _ | exact q_sh3 _ _ _ | exact q_sh4 _ _ _ _ | exact c_cl_0 .. | exact c_cl_1 .. | exact c_cl_2 .. | exact c_cl_3 .. | exact c_cl_4 .. | exact c_tc_4_4 _ | exact c_tc_4_5 _ | exact c_tc_3_3 _ | exact c_tc_2_4 _ | exact c_tc_2_5 _ | exact c_tc_1_3 _ | exact c_tc_1_4 _ | exact c_tc_0_4 _ | exact c_tc_0_5 _ | exact c_tc_0_6 _ | exact z_01 | exact z_11 | exact nz_24 | exact nz_16 | assumption | omega) only [eB4_makeRecord, x_aload_0, x_getf, c_gf_4_0, x_iload_1, x_iv_1, x_kx1, x_kx0, x_istore_2, x_iload_2, x_iv_2, x_if_ne, x_iconst, x_ret_i, c_gf_4_2, x_iv_0, x_isub, x_istore_3, x_iload_3, x_it_1, x_istore_4, x_istore_5, x_iload_5, x_ic_ge, x_istore_6, c_gf_4_1, x_iadd, x_iload_4, x_iload_6, x_iv_3, x_iinc_5, x_goto, x_ic_ne, x_dup_int, x_dup_ref, c_gf_4_4, x_putf, c_pf_4_4, jB4_makeRecord_20, jB4_makeRecord_39, jB4_makeRecord_95, jB4_makeRecord_133, uB4_makeRecord_0, uB4_makeRecord_20, uB4_makeRecord_39, uB4_makeRecord_87, uB4_makeRecord_95, uB4_makeRecord_133, n_0, n_1, n_2, n_3, n_4, n_5, n_6, n_7, n_8, n_9, n_10, n_12, n_13, n_15, n_16, n_20, n_24, n_60, n_64, n_72, n_96, n_192, n_256, n_400, n_808, n_960, n_1440, n_2048, n_2720, n_16777215, n_1000000, l_0, l_1, l_8, l_20, l_60, l_lt_t, l_lt_f, l_ge_t, l_ge_f, l_eq_t, l_eq_f, lN_i, nI_l, i_lt_t, i_lt_f, i_le_t, i_le_f, i_eq_t, i_eq_f, ↓n_m1, ↓n_m2, i_m1, i_m1s, i_m1lt, i_m1le, i_m1l2, i_m1l3, i_mm, nI_add, pk_mul, i_sub, i_dec, i_dec0, i_s01, i_div, Nat.reduceAdd, Nat.reduceSub, Nat.reduceMul, Nat.zero_add, if_true, if_false, not_true, not_false_eq_true, ↓reduceIte, c_np, np, c_hef, c_hc, c_hAt, c_part, e0, e0', c_size, c_move, c_off, c_lay, c_kind, tk, Nat.add_zero]
theorem c_mkR2 {kn : Nat} {ks zs : Nat → Nat} {ps : Nat → Int32} {ce : Nat → Int64} {bt rt rl : Nat → Nat} {nb nr : Nat} {hsh hst : Nat → Nat} {ssh : Nat → Int32} {ih th : Nat} {wt : Nat → Nat} {os : Nat → Int64} {wn oc dr tm : Nat} {fa : Int32} {g : Nat → Option am_E} {n m d : Nat} (s p0 p1 b0 : Nat) (hk : kn ≤ 24) (hs : s < kn) (tk : ks s = 1 ∨ ks s = 2) (h : 0 < th) (h2 : th ≤ 12) (h4 : ih ≤ 24) (hb : hst (th - 1) = b0) (h3 : b0 + 2 ≤ ih) (np : s_np ps s = 2) (nm : ¬ ps (s * 3 + 0) = mI) (h12 : ps (s * 3 + 1) = mI → ps (s * 3 + 2) = mI) (e0 : ps (s * 3 + 0) = nI p0) (l0 : p0 < kn) (e1 : ps (s * 3 + 1) = nI p1) (l1 : p1 < kn) (z0 : zs p0 + zs p1 ≤ 8) (ht : ∀ t, t < 2 → nI (hsh (ih - 2 + t)) = ps (s * 3 + t)) : ev (d + 4) 86 [.ref 1, .int (nI s)] (n, m, CO kn ks zs ps ce bt rt rl nb nr hsh hst ssh ih th wt os wn oc dr tm fa g) = some (some (.int (nI 1)), (n, m, CO kn ks zs ps (va_cpy (va_cpy ce ce ((ih - 2) * 8) ((ih - 2) * 8) (zs p0)) (va_cpy ce ce ((ih - 2) * 8) ((ih - 2) * 8) (zs p0)) ((ih - 2 + 1) * 8) ((ih - 2) * 8 + zs p0) (zs p1)) bt rt rl nb nr (upN hsh (ih - 2) s) hst ssh (ih - 2 + 1) th wt os wn oc dr (tm + (ks s - 1)) fa g)) := by
  have e0' : ps (s * 3) = nI p0 := e0
  rcases tk with tk | tk
  · rw [tk]
    simp (disch := first | exact q_two_i _ | exact q_two_r _ | exact q_two_n | exact q_sh0 | exact q_sh1 _ | exact q_sh2 _ _ | exact q_sh3 _ _ _ | exact q_sh4 _ _ _ _ | exact c_cl_0 .. | exact c_cl_1 .. | exact c_cl_2 .. | exact c_cl_3 .. | exact c_cl_4 .. | exact c_tc_4_4 _ | exact c_tc_4_5 _ | exact c_tc_3_3 _ | exact c_tc_2_4 _ | exact c_tc_2_5 _ | exact c_tc_1_3 _ | exact c_tc_1_4 _ | exact c_tc_0_4 _ | exact c_tc_0_5 _ | exact c_tc_0_6 _ | exact z_01 | exact z_11 | exact nz_24 | exact nz_16 | assumption | omega) only [eB4_makeRecord, x_aload_0, x_getf, c_gf_4_0, x_iload_1, x_iv_1, x_kx1, x_kx0, x_istore_2, x_iload_2, x_iv_2, x_if_ne, x_iconst, x_ret_i, c_gf_4_2, x_iv_0, x_isub, x_istore_3, x_iload_3, x_it_1, x_istore_4, x_istore_5, x_iload_5, x_ic_ge, x_istore_6, c_gf_4_1, x_iadd, x_iload_4, x_iload_6, x_iv_3, x_iinc_5, x_goto, x_ic_ne, x_dup_int, x_dup_ref, c_gf_4_4, x_putf, c_pf_4_4, jB4_makeRecord_20, jB4_makeRecord_39, jB4_makeRecord_95, jB4_makeRecord_133, uB4_makeRecord_0, uB4_makeRecord_20, uB4_makeRecord_39, uB4_makeRecord_87, uB4_makeRecord_95, uB4_makeRecord_133, n_0, n_1, n_2, n_3, n_4, n_5, n_6, n_7, n_8, n_9, n_10, n_12, n_13, n_15, n_16, n_20, n_24, n_60, n_64, n_72, n_96, n_192, n_256, n_400, n_808, n_960, n_1440, n_2048, n_2720, n_16777215, n_1000000, l_0, l_1, l_8, l_20, l_60, l_lt_t, l_lt_f, l_ge_t, l_ge_f, l_eq_t, l_eq_f, lN_i, nI_l, i_lt_t, i_lt_f, i_le_t, i_le_f, i_eq_t, i_eq_f, ↓n_m1, ↓n_m2, i_m1, i_m1s, i_m1lt, i_m1le, i_m1l2, i_m1l3, i_mm, nI_add, pk_mul, i_sub, i_dec, i_dec0, i_s01, i_div, Nat.reduceAdd, Nat.reduceSub, Nat.reduceMul, Nat.zero_add, if_true, if_false, not_true, not_false_eq_true, ↓reduceIte, c_np, np, c_hef, c_hc, c_hAt, c_part, e0, e0', e1, c_size, c_move, c_off, c_lay, c_kind, tk, Nat.add_zero]
  · rw [tk]
    simp (disch := first | exact q_two_i _ | exact q_two_r _ | exact q_two_n | exact q_sh0 | exact q_sh1 _ | exact q_sh2 _ _ | exact q_sh3 _ _ _ | exact q_sh4 _ _ _ _ | exact c_cl_0 .. | exact c_cl_1 .. | exact c_cl_2 .. | exact c_cl_3 .. | exact c_cl_4 .. | exact c_tc_4_4 _ | exact c_tc_4_5 _ | exact c_tc_3_3 _ | exact c_tc_2_4 _ | exact c_tc_2_5 _ | exact c_tc_1_3 _ | exact c_tc_1_4 _ | exact c_tc_0_4 _ | exact c_tc_0_5 _ | exact c_tc_0_6 _ | exact z_01 | exact z_11 | exact nz_24 | exact nz_16 | assumption | omega) only [eB4_makeRecord, x_aload_0, x_getf, c_gf_4_0, x_iload_1, x_iv_1, x_kx1, x_kx0, x_istore_2, x_iload_2, x_iv_2, x_if_ne, x_iconst, x_ret_i, c_gf_4_2, x_iv_0, x_isub, x_istore_3, x_iload_3, x_it_1, x_istore_4, x_istore_5, x_iload_5, x_ic_ge, x_istore_6, c_gf_4_1, x_iadd, x_iload_4, x_iload_6, x_iv_3, x_iinc_5, x_goto, x_ic_ne, x_dup_int, x_dup_ref, c_gf_4_4, x_putf, c_pf_4_4, jB4_makeRecord_20, jB4_makeRecord_39, jB4_makeRecord_95, jB4_makeRecord_133, uB4_makeRecord_0, uB4_makeRecord_20, uB4_makeRecord_39, uB4_makeRecord_87, uB4_makeRecord_95, uB4_makeRecord_133, n_0, n_1, n_2, n_3, n_4, n_5, n_6, n_7, n_8, n_9, n_10, n_12, n_13, n_15, n_16, n_20, n_24, n_60, n_64, n_72, n_96, n_192, n_256, n_400, n_808, n_960, n_1440, n_2048, n_2720, n_16777215, n_1000000, l_0, l_1, l_8, l_20, l_60, l_lt_t, l_lt_f, l_ge_t, l_ge_f, l_eq_t, l_eq_f, lN_i, nI_l, i_lt_t, i_lt_f, i_le_t, i_le_f, i_eq_t, i_eq_f, ↓n_m1, ↓n_m2, i_m1, i_m1s, i_m1lt, i_m1le, i_m1l2, i_m1l3, i_mm, nI_add, pk_mul, i_sub, i_dec, i_dec0, i_s01, i_div, Nat.reduceAdd, Nat.reduceSub, Nat.reduceMul, Nat.zero_add, if_true, if_false, not_true, not_false_eq_true, ↓reduceIte, c_np, np, c_hef, c_hc, c_hAt, c_part, e0, e0', e1, c_size, c_move, c_off, c_lay, c_kind, tk, Nat.add_zero]
theorem c_mkR3 {kn : Nat} {ks zs : Nat → Nat} {ps : Nat → Int32} {ce : Nat → Int64} {bt rt rl : Nat → Nat} {nb nr : Nat} {hsh hst : Nat → Nat} {ssh : Nat → Int32} {ih th : Nat} {wt : Nat → Nat} {os : Nat → Int64} {wn oc dr tm : Nat} {fa : Int32} {g : Nat → Option am_E} {n m d : Nat} (s p0 p1 p2 b0 : Nat) (hk : kn ≤ 24) (hs : s < kn) (tk : ks s = 1 ∨ ks s = 2) (h : 0 < th) (h2 : th ≤ 12) (h4 : ih ≤ 24) (hb : hst (th - 1) = b0) (h3 : b0 + 3 ≤ ih) (np : s_np ps s = 3) (nm : ¬ ps (s * 3 + 0) = mI) (h12 : ps (s * 3 + 1) = mI → ps (s * 3 + 2) = mI) (e0 : ps (s * 3 + 0) = nI p0) (l0 : p0 < kn) (e1 : ps (s * 3 + 1) = nI p1) (l1 : p1 < kn) (e2 : ps (s * 3 + 2) = nI p2) (l2 : p2 < kn) (z0 : zs p0 + zs p1 + zs p2 ≤ 8) (ht : ∀ t, t < 3 → nI (hsh (ih - 3 + t)) = ps (s * 3 + t)) : ev (d + 4) 86 [.ref 1, .int (nI s)] (n, m, CO kn ks zs ps ce bt rt rl nb nr hsh hst ssh ih th wt os wn oc dr tm fa g) = some (some (.int (nI 1)), (n, m, CO kn ks zs ps (va_cpy (va_cpy (va_cpy ce ce ((ih - 3) * 8) ((ih - 3) * 8) (zs p0)) (va_cpy ce ce ((ih - 3) * 8) ((ih - 3) * 8) (zs p0)) ((ih - 3 + 1) * 8) ((ih - 3) * 8 + zs p0) (zs p1)) (va_cpy (va_cpy ce ce ((ih - 3) * 8) ((ih - 3) * 8) (zs p0)) (va_cpy ce ce ((ih - 3) * 8) ((ih - 3) * 8) (zs p0)) ((ih - 3 + 1) * 8) ((ih - 3) * 8 + zs p0) (zs p1)) ((ih - 3 + 2) * 8) ((ih - 3) * 8 + zs p0 + zs p1) (zs p2)) bt rt rl nb nr (upN hsh (ih - 3) s) hst ssh (ih - 3 + 1) th wt os wn oc dr (tm + (ks s - 1)) fa g)) := by
  have e0' : ps (s * 3) = nI p0 := e0
  rcases tk with tk | tk
  · rw [tk]
    simp (disch := first | exact q_two_i _ | exact q_two_r _ | exact q_two_n | exact q_sh0 | exact q_sh1 _ | exact q_sh2 _ _ | exact q_sh3 _ _ _ | exact q_sh4 _ _ _ _ | exact c_cl_0 .. | exact c_cl_1 .. | exact c_cl_2 .. | exact c_cl_3 .. | exact c_cl_4 .. | exact c_tc_4_4 _ | exact c_tc_4_5 _ | exact c_tc_3_3 _ | exact c_tc_2_4 _ | exact c_tc_2_5 _ | exact c_tc_1_3 _ | exact c_tc_1_4 _ | exact c_tc_0_4 _ | exact c_tc_0_5 _ | exact c_tc_0_6 _ | exact z_01 | exact z_11 | exact nz_24 | exact nz_16 | assumption | omega) only [eB4_makeRecord, x_aload_0, x_getf, c_gf_4_0, x_iload_1, x_iv_1, x_kx1, x_kx0, x_istore_2, x_iload_2, x_iv_2, x_if_ne, x_iconst, x_ret_i, c_gf_4_2, x_iv_0, x_isub, x_istore_3, x_iload_3, x_it_1, x_istore_4, x_istore_5, x_iload_5, x_ic_ge, x_istore_6, c_gf_4_1, x_iadd, x_iload_4, x_iload_6, x_iv_3, x_iinc_5, x_goto, x_ic_ne, x_dup_int, x_dup_ref, c_gf_4_4, x_putf, c_pf_4_4, jB4_makeRecord_20, jB4_makeRecord_39, jB4_makeRecord_95, jB4_makeRecord_133, uB4_makeRecord_0, uB4_makeRecord_20, uB4_makeRecord_39, uB4_makeRecord_87, uB4_makeRecord_95, uB4_makeRecord_133, n_0, n_1, n_2, n_3, n_4, n_5, n_6, n_7, n_8, n_9, n_10, n_12, n_13, n_15, n_16, n_20, n_24, n_60, n_64, n_72, n_96, n_192, n_256, n_400, n_808, n_960, n_1440, n_2048, n_2720, n_16777215, n_1000000, l_0, l_1, l_8, l_20, l_60, l_lt_t, l_lt_f, l_ge_t, l_ge_f, l_eq_t, l_eq_f, lN_i, nI_l, i_lt_t, i_lt_f, i_le_t, i_le_f, i_eq_t, i_eq_f, ↓n_m1, ↓n_m2, i_m1, i_m1s, i_m1lt, i_m1le, i_m1l2, i_m1l3, i_mm, nI_add, pk_mul, i_sub, i_dec, i_dec0, i_s01, i_div, Nat.reduceAdd, Nat.reduceSub, Nat.reduceMul, Nat.zero_add, if_true, if_false, not_true, not_false_eq_true, ↓reduceIte, c_np, np, c_hef, c_hc, c_hAt, c_part, e0, e0', e1, e2, c_size, c_move, c_off, c_lay, c_kind, tk, Nat.add_zero]
  · rw [tk]
    simp (disch := first | exact q_two_i _ | exact q_two_r _ | exact q_two_n | exact q_sh0 | exact q_sh1 _ | exact q_sh2 _ _ | exact q_sh3 _ _ _ | exact q_sh4 _ _ _ _ | exact c_cl_0 .. | exact c_cl_1 .. | exact c_cl_2 .. | exact c_cl_3 .. | exact c_cl_4 .. | exact c_tc_4_4 _ | exact c_tc_4_5 _ | exact c_tc_3_3 _ | exact c_tc_2_4 _ | exact c_tc_2_5 _ | exact c_tc_1_3 _ | exact c_tc_1_4 _ | exact c_tc_0_4 _ | exact c_tc_0_5 _ | exact c_tc_0_6 _ | exact z_01 | exact z_11 | exact nz_24 | exact nz_16 | assumption | omega) only [eB4_makeRecord, x_aload_0, x_getf, c_gf_4_0, x_iload_1, x_iv_1, x_kx1, x_kx0, x_istore_2, x_iload_2, x_iv_2, x_if_ne, x_iconst, x_ret_i, c_gf_4_2, x_iv_0, x_isub, x_istore_3, x_iload_3, x_it_1, x_istore_4, x_istore_5, x_iload_5, x_ic_ge, x_istore_6, c_gf_4_1, x_iadd, x_iload_4, x_iload_6, x_iv_3, x_iinc_5, x_goto, x_ic_ne, x_dup_int, x_dup_ref, c_gf_4_4, x_putf, c_pf_4_4, jB4_makeRecord_20, jB4_makeRecord_39, jB4_makeRecord_95, jB4_makeRecord_133, uB4_makeRecord_0, uB4_makeRecord_20, uB4_makeRecord_39, uB4_makeRecord_87, uB4_makeRecord_95, uB4_makeRecord_133, n_0, n_1, n_2, n_3, n_4, n_5, n_6, n_7, n_8, n_9, n_10, n_12, n_13, n_15, n_16, n_20, n_24, n_60, n_64, n_72, n_96, n_192, n_256, n_400, n_808, n_960, n_1440, n_2048, n_2720, n_16777215, n_1000000, l_0, l_1, l_8, l_20, l_60, l_lt_t, l_lt_f, l_ge_t, l_ge_f, l_eq_t, l_eq_f, lN_i, nI_l, i_lt_t, i_lt_f, i_le_t, i_le_f, i_eq_t, i_eq_f, ↓n_m1, ↓n_m2, i_m1, i_m1s, i_m1lt, i_m1le, i_m1l2, i_m1l3, i_mm, nI_add, pk_mul, i_sub, i_dec, i_dec0, i_s01, i_div, Nat.reduceAdd, Nat.reduceSub, Nat.reduceMul, Nat.zero_add, if_true, if_false, not_true, not_false_eq_true, ↓reduceIte, c_np, np, c_hef, c_hc, c_hAt, c_part, e0, e0', e1, e2, c_size, c_move, c_off, c_lay, c_kind, tk, Nat.add_zero]
/-- makeRecord, whatever the number of fields -/
theorem c_mkR {kn : Nat} {ks zs : Nat → Nat} {ps : Nat → Int32} {ce : Nat → Int64} {bt rt rl : Nat → Nat} {nb nr : Nat} {hsh hst : Nat → Nat} {ssh : Nat → Int32} {ih th : Nat} {wt : Nat → Nat} {os : Nat → Int64} {wn oc dr tm : Nat} {fa : Int32} {n m d s b0 z : Nat} {R : Nat → Fo} (hS : s_ok kn ks zs ps) (hk : kn ≤ 24) (hs : s < kn) (tk : ks s = 1 ∨ ks s = 2) (h : 0 < th) (h2 : th ≤ 12) (h4 : ih ≤ 24) (hb : hst (th - 1) = b0) (h3 : b0 + z ≤ ih) (np : s_np ps s = z) (ht : ∀ t, t < z → nI (hsh (ih - z + t)) = ps (s * 3 + t)) (hl : ∀ r, r < ih → f_len (R r) = 1 ∧ hsh r = f_sh (R r) 0 ∧ hsh r < 24) : ∃ ce2, (∀ g, ev (d + 4) 86 [.ref 1, .int (nI s)] (n, m, CO kn ks zs ps ce bt rt rl nb nr hsh hst ssh ih th wt os wn oc dr tm fa g) = some (some (.int (nI 1)), (n, m, CO kn ks zs ps (ce2) bt rt rl nb nr (upN hsh (ih - z) s) hst ssh (ih - z + 1) th wt os wn oc dr (tm + (ks s - 1)) fa g))) ∧ (∀ p, p < 8 * (ih - z) ∨ 8 * (ih - z) + 8 ≤ p → ce2 p = ce p) ∧ ∀ i, i < z → ∀ t, t < f_ext zs (R (ih - z + i)) false → ce2 (8 * (ih - z) + f_ext zs (f_row R (ih - z) i) false + t) = ce (8 * (ih - z + i) + t) := by
  obtain ⟨y1, y2, y3, y4, y5, y6, y7, y8, y9⟩ := hS.2 s hs
  obtain ⟨⟨p0', hp0', e0'⟩, h12, hz, -⟩ := y6 tk
  have nm : ¬ ps (s * 3 + 0) = mI := by rw [e0']; exact fun e => ((i_m1 (show p0' < 2 ^ 31 by omega)).mp e).elim
  have hz1 : 1 ≤ z ∧ z ≤ 3 := by rcases s_np_c ps s with q | q | q <;> omega
  have hpi : ∀ i, i < z → ps (s * 3 + i) = nI (hsh (ih - z + i)) ∧ hsh (ih - z + i) < kn := fun i hi => by
    have e1 := ht i hi
    refine ⟨e1.symm, ?_⟩
    have e2 := (hl (ih - z + i) (by omega)).2.2
    rcases y4 i (by omega) with q | ⟨p, hp, q⟩
    · rw [q] at e1; exact ((i_m1 (show hsh (ih - z + i) < 2 ^ 31 by omega)).mp e1).elim
    · rw [q] at e1
      have := nI_inj (by omega) (by omega) e1
      omega
  have hx : ∀ i, i < z → f_ext zs (R (ih - z + i)) false = zs (hsh (ih - z + i)) := fun i hi => by
    have := hl (ih - z + i) (by omega)
    rw [f_ext1 this.1, this.2.1]
  have hzs : ∀ i, i < z → s_zp zs ps (s * 3 + i) = zs (hsh (ih - z + i)) := fun i hi => by
    rw [s_zp_v, (hpi i hi).1, szv_n (by have := (hpi i hi).2; omega)]
  obtain ⟨b, hbz⟩ : ∃ b, ih - z = b := ⟨_, rfl⟩
  rw [hbz] at hpi hx hzs ⊢
  have hbi : b + z = ih := by omega
  have e0 : ps (s * 3 + 0) = nI (hsh b) ∧ hsh b < kn := hpi 0 (by omega)
  have g0 : s_zp zs ps (s * 3 + 0) = zs (hsh b) := hzs 0 (by omega)
  have x0 : f_ext zs (R b) false = zs (hsh b) := hx 0 (by omega)
  rcases s_np_c ps s with ⟨q1, q2⟩ | ⟨q1, q2, q3⟩ | ⟨q1, q2, q3⟩
  · obtain rfl : z = 1 := by omega
    have q3 := h12 q2
    have z1 : s_zp zs ps (s * 3 + 1) = 0 := s_zp_m q2
    have z2 : s_zp zs ps (s * 3 + 2) = 0 := s_zp_m q3
    refine ⟨va_cpy ce ce (b * 8) (b * 8) (zs (hsh b)), fun g => ?_, fun p hp => ?_, fun i hi t ht' => ?_⟩
    · have := c_mkR1 (kn := kn) (ks := ks) (zs := zs) (ps := ps) (ce := ce) (bt := bt) (rt := rt) (rl := rl) (nb := nb) (nr := nr) (hsh := hsh) (hst := hst) (ssh := ssh) (ih := ih) (th := th) (wt := wt) (os := os) (wn := wn) (oc := oc) (dr := dr) (tm := tm) (fa := fa) (g := g) (n := n) (m := m) (d := d) s (hsh b) b0 hk hs tk h h2 h4 hb h3 q1 nm h12 e0.1 e0.2 (by omega) ht
      rw [hbz] at this
      exact this
    · rw [mvc, if_neg (by omega)]
    · obtain rfl : i = 0 := by omega
      simp only [Nat.add_zero, f_row, f_ext] at ht' ⊢
      rw [mvc]
      split
      · congr 1; omega
      · rfl
  · obtain rfl : z = 2 := by omega
    have e1 := hpi 1 (by omega)
    have g1 := hzs 1 (by omega)
    have x1 := hx 1 (by omega)
    have z2 : s_zp zs ps (s * 3 + 2) = 0 := s_zp_m q3
    refine ⟨va_cpy (va_cpy ce ce (b * 8) (b * 8) (zs (hsh b))) (va_cpy ce ce (b * 8) (b * 8) (zs (hsh b))) ((b + 1) * 8) (b * 8 + zs (hsh b)) (zs (hsh (b + 1))), fun g => ?_, fun p hp => ?_, fun i hi t ht' => ?_⟩
    · have := c_mkR2 (kn := kn) (ks := ks) (zs := zs) (ps := ps) (ce := ce) (bt := bt) (rt := rt) (rl := rl) (nb := nb) (nr := nr) (hsh := hsh) (hst := hst) (ssh := ssh) (ih := ih) (th := th) (wt := wt) (os := os) (wn := wn) (oc := oc) (dr := dr) (tm := tm) (fa := fa) (g := g) (n := n) (m := m) (d := d) s (hsh b) (hsh (b + 1)) b0 hk hs tk h h2 h4 hb h3 q1 nm h12 e0.1 e0.2 e1.1 e1.2 (by omega) ht
      rw [hbz] at this
      exact this
    · rw [mvc, if_neg (by omega), mvc, if_neg (by omega)]
    · have : i = 0 ∨ i = 1 := by omega
      rcases this with rfl | rfl
      · simp only [Nat.add_zero, f_row, f_ext] at ht' ⊢
        rw [mvc, if_neg (by omega), mvc, if_pos (by omega)]
        congr 1; omega
      · simp only [f_row, f_ext_app, f_ext, Nat.add_zero]
        rw [mvc, if_pos (by omega), mvc, if_neg (by omega)]
        congr 1; omega
  · obtain rfl : z = 3 := by omega
    have e1 := hpi 1 (by omega)
    have g1 := hzs 1 (by omega)
    have x1 := hx 1 (by omega)
    have e2 := hpi 2 (by omega)
    have g2 := hzs 2 (by omega)
    have x2 := hx 2 (by omega)
    refine ⟨va_cpy (va_cpy (va_cpy ce ce (b * 8) (b * 8) (zs (hsh b))) (va_cpy ce ce (b * 8) (b * 8) (zs (hsh b))) ((b + 1) * 8) (b * 8 + zs (hsh b)) (zs (hsh (b + 1)))) (va_cpy (va_cpy ce ce (b * 8) (b * 8) (zs (hsh b))) (va_cpy ce ce (b * 8) (b * 8) (zs (hsh b))) ((b + 1) * 8) (b * 8 + zs (hsh b)) (zs (hsh (b + 1)))) ((b + 2) * 8) (b * 8 + zs (hsh b) + zs (hsh (b + 1))) (zs (hsh (b + 2))), fun g => ?_, fun p hp => ?_, fun i hi t ht' => ?_⟩
    · have := c_mkR3 (kn := kn) (ks := ks) (zs := zs) (ps := ps) (ce := ce) (bt := bt) (rt := rt) (rl := rl) (nb := nb) (nr := nr) (hsh := hsh) (hst := hst) (ssh := ssh) (ih := ih) (th := th) (wt := wt) (os := os) (wn := wn) (oc := oc) (dr := dr) (tm := tm) (fa := fa) (g := g) (n := n) (m := m) (d := d) s (hsh b) (hsh (b + 1)) (hsh (b + 2)) b0 hk hs tk h h2 h4 hb h3 q1 nm h12 e0.1 e0.2 e1.1 e1.2 e2.1 e2.2 (by omega) ht
      rw [hbz] at this
      exact this
    · rw [mvc, if_neg (by omega), mvc, if_neg (by omega), mvc, if_neg (by omega)]
    · have : i = 0 ∨ i = 1 ∨ i = 2 := by omega
      rcases this with rfl | rfl | rfl
      · simp only [Nat.add_zero, f_row, f_ext] at ht' ⊢
        rw [mvc, if_neg (by omega), mvc, if_neg (by omega), mvc, if_pos (by omega)]
        congr 1; omega
      · simp only [f_row, f_ext_app, f_ext, Nat.add_zero]
        rw [mvc, if_neg (by omega), mvc, if_pos (by omega), mvc, if_neg (by omega)]
        congr 1; omega
      · simp only [f_row, f_ext_app, f_ext, Nat.add_zero]
        rw [mvc, if_pos (by omega), mvc, if_neg (by omega), mvc, if_neg (by omega)]
        congr 1; omega
