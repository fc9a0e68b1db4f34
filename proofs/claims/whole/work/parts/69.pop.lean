/-! pop. -/
theorem f_last : ∀ (n : Nat) (K : Fo), f_len K = n + 1 → ∃ K0 T, K = f_app K0 T ∧ f_len K0 = n ∧ f_len T = 1
  | _, .leaf, h => by simp [f_len] at h
  | 0, .inner s k v K N, h => by
    simp only [f_len] at h
    exact ⟨.leaf, .inner s k v K N, rfl, rfl, by simp only [f_len]; omega⟩
  | n + 1, .inner s k v K N, h => by
    simp only [f_len] at h
    obtain ⟨K0, T, e1, e2, e3⟩ := f_last n N (by omega)
    exact ⟨.inner s k v K K0, T, by simp only [f_app, ← e1], by simp only [f_len]; omega, e3⟩
theorem rF_po {f : Fo → Nat} {φ : Nat → Nat × Nat → Nat} (h : fA f φ) {R : Nat → Fo} {r b s : Nat} {k : Nat × Nat} {v v' : Int64} {K0 T N : Fo} {p : List Bool} (hr : r < 120) (hb : b < 120) (hrb : r ≠ b) (hp : b_at (R r) p = .inner s k v (f_app K0 T) N) (h1 : R b = .leaf) : rF f (upN (upN R b T) r (b_set k v' K0 (R r) p)) = rF f R := by
  have e1 := rF_up f R b T hb
  have e2 := rF_up f (upN R b T) r (b_set k v' K0 (R r) p) hr
  have e3 := fb_A h (k' := k) (v' := v') (K' := K0) p (R r) hp
  have e4 := f_app_A h K0 T
  rw [h1, h.1] at e1
  rw [upN_n _ _ hrb] at e2
  omega
theorem s_pop {e0 : Option am_E} {d c n m : Nat} {kn : Nat} {ks zs : Nat → Nat} {ps : Nat → Int32} {ce : Nat → Int64} {bt rt rl : Nat → Nat} {nb nr : Nat} {hsh hst : Nat → Nat} {ssh : Nat → Int32} {ih th : Nat} {wt : Nat → Nat} {os : Nat → Int64} {wn oc dr tm : Nat} {fa : Int32} {ko : Nat → Int32} {q1 q2 q3 cp : Nat} {so ki : Nat → Nat} {nu : Nat → Int64} {no sp : Nat} {hn sl ah : Nat → Nat} {isl inn atk : Nat} {g : Nat → Option am_E} {R : Nat → Fo} {fl : List Nat} (hI : ST c kn ks zs ps ce bt rt rl nb nr hsh hst ssh ih th oc ko q1 q2 q3 cp so ki nu no sp hn sl ah R fl) (hN : NQ n q1 q2 q3) (hg : g 0 = e0) (hB : n ≤ 28 + 3 * c ∧ m ≤ 20000 + 10260 * c) (xs xp : Int32) : SS e0 (d + 600) 76 139 [.int xs, .int xp] c (n, m, CO kn ks zs ps ce bt rt rl nb nr hsh hst ssh ih th wt os wn oc dr tm fa (RO kn ks zs ko q1 q2 q3 cp so ki nu no sp hn sl ah ih th os oc nb nr tm dr isl inn atk g)) := by
  obtain ⟨⟨hS, hk⟩, hK, hF, hT, hL, hC, hR, hO, hBd, ⟨hq, hq17⟩, hcp⟩ := id hI
  have hB1 : n ≤ 28 + 3 * (c + 1) ∧ m ≤ 20000 + 10260 * (c + 1) := ⟨by omega, by omega⟩
  obtain ⟨⟨f1, f2⟩, f3, f4, f5, f6, f7⟩ := id hF
  obtain ⟨b0, hb0⟩ : ∃ b0, hst (th - 1) = b0 := ⟨_, rfl⟩
  have hb3 : b0 ≤ ih := by rw [← hb0]; exact f6
  have ha0 : ah th = b0 := by rw [← hb0, ← f7 (th - 1) (by omega), Nat.sub_add_cancel f1]
  have hb4 : ah th ≤ ih := by rw [ha0]; exact hb3
  have f0 : 0 < th := f1
  obtain ⟨G0, hG0⟩ : ∃ G0, RO kn ks zs ko q1 q2 q3 cp so ki nu no sp hn sl ah ih th os oc nb nr tm dr isl inn atk g = G0 := ⟨_, rfl⟩
  have hcp1 := hcp.1
  rcases sk (kn := kn) (ks := ks) (zs := zs) (ps := ps) (ce := ce) (bt := bt) (rt := rt) (rl := rl) (nb := nb) (nr := nr) (hsh := hsh) (hst := hst) (ssh := ssh) (ih := ih) (th := th) (wt := wt) (os := os) (wn := wn) (oc := oc) (dr := dr) (tm := tm) (fa := fa) (ko := ko) (q1 := q1) (q2 := q2) (q3 := q3) (cp := cp) (so := so) (ki := ki) (nu := nu) (no := no) (sp := sp) (hn := hn) (sl := sl) (ah := ah) (isl := isl) (inn := inn) (atk := atk) hI xs xp with ⟨h1, h2⟩ | ⟨j0, p, s, x, j, v, K, N, hj, hp, h1, h2⟩
  · obtain ⟨y, e1⟩ := h1 G0 n m (d + 593)
    obtain ⟨G1, hG1⟩ : ∃ G1, CO kn ks zs ps ce bt rt rl nb nr hsh hst ssh ih th wt os wn oc dr tm (y) g = G1 := ⟨_, rfl⟩
    obtain ⟨i1, i2, i3, e2⟩ := h2 G1 n m (d + 597)
    exact SS_mk1 (hoq := hq) (kn' := kn) (ks' := ks) (zs' := zs) (ps' := ps) (ce' := ce) (bt' := bt) (rt' := rt) (rl' := rl) (nb' := nb) (nr' := nr) (hsh' := hsh) (hst' := hst) (ssh' := ssh) (ih' := ih) (th' := th) (wt' := wt) (os' := os) (wn' := wn) (oc' := oc) (dr' := dr) (tm' := tm) (fa' := y) (ko' := ko) (q1' := q1) (q2' := q2) (q3' := q3) (cp' := cp) (so' := so) (ki' := ki) (nu' := nu) (no' := no) (sp' := sp) (hn' := hn) (sl' := sl) (ah' := ah) (isl' := i1) (inn' := i2) (atk' := i3) hq17 hg hG0 hG1 (r := .int mI) (by simp (disch := first | exact q_two_i _ | exact q_two_r _ | exact q_two_n | exact q_sh0 | exact q_sh1 _ | exact q_sh2 _ _ | exact q_sh3 _ _ _ | exact q_sh4 _ _ _ _ | exact c_cl_0 .. | exact c_cl_1 .. | exact c_cl_2 .. | exact c_cl_3 .. | exact c_cl_4 .. | exact c_tc_4_4 _ | exact c_tc_4_5 _ | exact c_tc_3_3 _ | exact c_tc_2_4 _ | exact c_tc_2_5 _ | exact c_tc_1_3 _ | exact c_tc_1_4 _ | exact c_tc_0_4 _ | exact c_tc_0_5 _ | exact c_tc_0_6 _ | exact z_01 | exact z_11 | exact nz_24 | exact nz_16 | assumption | omega) only [eB4_pop, x_aload_0, x_iload_1, x_iload_2, x_iv_2, x_kx1, x_kx0, x_istore_3, x_getf, c_gf_4_0, x_iload_3, x_iv_1, x_iconst, x_ic_eq, x_ret_i, x_istore_4, c_gf_4_1, c_gf_4_5, x_lstore_5, x_lload_5, x_isub, x_istore_7, x_iload_7, x_if_ge, c_gf_4_2, x_if_ne, x_bipush, x_iload_4, x_iv_0, x_iv_3, jB4_pop_21, jB4_pop_65, jB4_pop_79, uB4_pop_0, uB4_pop_21, uB4_pop_65, uB4_pop_79, uB4_pop_132, n_0, n_1, n_2, n_3, n_4, n_5, n_6, n_7, n_8, n_9, n_10, n_12, n_13, n_15, n_16, n_20, n_24, n_60, n_64, n_72, n_96, n_192, n_256, n_400, n_808, n_960, n_1440, n_2048, n_2720, n_16777215, n_1000000, l_0, l_1, l_8, l_20, l_60, l_lt_t, l_lt_f, l_ge_t, l_ge_f, l_eq_t, l_eq_f, lN_i, nI_l, i_lt_t, i_lt_f, i_le_t, i_le_f, i_eq_t, i_eq_f, ↓n_m1, ↓n_m2, i_m1, i_m1s, i_m1lt, i_m1le, i_m1l2, i_m1l3, i_mm, nI_add, pk_mul, i_sub, i_dec, i_dec0, i_s01, i_div, Nat.reduceAdd, Nat.reduceSub, Nat.reduceMul, Nat.zero_add, if_true, if_false, not_true, not_false_eq_true, ↓reduceIte, e1, c_kindM]) (by simp (disch := first | exact q_two_i _ | exact q_two_r _ | exact q_two_n | exact q_sh0 | exact q_sh1 _ | exact q_sh2 _ _ | exact q_sh3 _ _ _ | exact q_sh4 _ _ _ _ | exact c_cl_5 hq | exact c_tc_5_3 _ | exact c_tc_5_7 _ | exact c_tc_5_8 _ | exact c_tc_5_12 _ | exact c_tc_5_13 _ | exact c_tc_5_15 _ | exact c_tc_5_16 _ | exact c_tc_5_17 _ | exact c_tc_5_18 _ | exact c_tc_5_19 _ | exact c_tc_5_21 _ | exact c_tc_5_22 _ | exact c_tc_5_20a | exact c_tc_5_20b | exact z_01 | exact z_11 | exact nz_24 | exact nz_16 | assumption | omega) only [eB5_pop, x_aload_0, x_iload_1, x_iload_2, x_iv_2, x_kx1, x_kx0, x_istore_3, x_iload_3, x_if_eq, x_iv_1, x_iconst, x_ic_ne, x_getf, c_gf_5_6, x_laload, x_lconst, x_lcmp, x_if_ne, x_ret_i, c_gf_5_12, x_bipush, x_dup2, x_lsub, x_lastore, x_imul, x_l2i, x_iadd, x_istore_4, c_gf_5_5, x_iload_4, x_iaload, x_istore_5, x_iastore, jB5_pop_31, jB5_pop_33, jB5_pop_45, uB5_pop_0, uB5_pop_31, uB5_pop_33, uB5_pop_45, uB5_pop_80, n_0, n_1, n_2, n_3, n_4, n_5, n_6, n_7, n_8, n_9, n_10, n_12, n_13, n_15, n_16, n_20, n_24, n_60, n_64, n_72, n_96, n_192, n_256, n_400, n_808, n_960, n_1440, n_2048, n_2720, n_16777215, n_1000000, l_0, l_1, l_8, l_20, l_60, l_lt_t, l_lt_f, l_ge_t, l_ge_f, l_eq_t, l_eq_f, lN_i, nI_l, i_lt_t, i_lt_f, i_le_t, i_le_f, i_eq_t, i_eq_f, ↓n_m1, ↓n_m2, i_m1, i_m1s, i_m1lt, i_m1le, i_m1l2, i_m1l3, i_mm, nI_add, pk_mul, i_sub, i_dec, i_dec0, i_s01, i_div, Nat.reduceAdd, Nat.reduceSub, Nat.reduceMul, Nat.zero_add, if_true, if_false, not_true, not_false_eq_true, ↓reduceIte, hq, e2]) ⟨R, fl, ST_mono hI⟩ hN hB1
  obtain ⟨⟨p1, p2, p3⟩, ⟨p4, p5, p6⟩, ⟨p7, p8, p9⟩, p10, p11⟩ := pl hI hj hp
  have e1 := h1 G0 n m (d + 593)
  have p12 := b_ad_ge (ks := ks) (zs := zs) p (R (24 + j0)) (8 * (24 + j0), false) (by dsimp only; omega)
  have pC : f_okC ks zs ce rl (.inner s (x, j) v K .leaf) (b_ad ks zs (R (24 + j0)) p (8 * (24 + j0), false)).1 false := ⟨p10.2.1.1, trivial⟩
  obtain ⟨a, hy⟩ : ∃ a, (b_ad ks zs (R (24 + j0)) p (8 * (24 + j0), false)).1 = a := ⟨_, rfl⟩
  rw [hy] at e1 p11 p12 pC
  have hs24 : s < 24 := by omega
  have hsx : so x < 24 := by omega
  have hx0 : x ≠ 0 := by omega
  have hx5 : x < 100000 := by omega
  obtain ⟨y1, y2, y3, y4, y5, y6, y7, y8, y9⟩ := hS.2 s p1
  have ha : a < 2720 := by omega
  by_cases tk : ks s = 5
  rotate_left
  · obtain ⟨G1, hG1⟩ : ∃ G1, CO kn ks zs ps ce bt rt rl nb nr hsh hst ssh ih th wt os wn oc dr tm (nI a) g = G1 := ⟨_, rfl⟩
    obtain ⟨i1, i2, i3, e2, -⟩ := h2 G1 n m (d + 597)
    exact SS_mk1 (hoq := hq) (kn' := kn) (ks' := ks) (zs' := zs) (ps' := ps) (ce' := ce) (bt' := bt) (rt' := rt) (rl' := rl) (nb' := nb) (nr' := nr) (hsh' := hsh) (hst' := hst) (ssh' := ssh) (ih' := ih) (th' := th) (wt' := wt) (os' := os) (wn' := wn) (oc' := oc) (dr' := dr) (tm' := tm) (fa' := nI a) (ko' := ko) (q1' := q1) (q2' := q2) (q3' := q3) (cp' := cp) (so' := so) (ki' := ki) (nu' := nu) (no' := no) (sp' := sp) (hn' := hn) (sl' := sl) (ah' := ah) (isl' := i1) (inn' := i2) (atk' := i3) hq17 hg hG0 hG1 (r := .int mI) (by simp (disch := first | exact q_two_i _ | exact q_two_r _ | exact q_two_n | exact q_sh0 | exact q_sh1 _ | exact q_sh2 _ _ | exact q_sh3 _ _ _ | exact q_sh4 _ _ _ _ | exact c_cl_0 .. | exact c_cl_1 .. | exact c_cl_2 .. | exact c_cl_3 .. | exact c_cl_4 .. | exact c_tc_4_4 _ | exact c_tc_4_5 _ | exact c_tc_3_3 _ | exact c_tc_2_4 _ | exact c_tc_2_5 _ | exact c_tc_1_3 _ | exact c_tc_1_4 _ | exact c_tc_0_4 _ | exact c_tc_0_5 _ | exact c_tc_0_6 _ | exact z_01 | exact z_11 | exact nz_24 | exact nz_16 | assumption | omega) only [eB4_pop, x_aload_0, x_iload_1, x_iload_2, x_iv_2, x_kx1, x_kx0, x_istore_3, x_getf, c_gf_4_0, x_iload_3, x_iv_1, x_iconst, x_ic_eq, x_ret_i, x_istore_4, c_gf_4_1, c_gf_4_5, x_lstore_5, x_lload_5, x_isub, x_istore_7, x_iload_7, x_if_ge, c_gf_4_2, x_if_ne, x_bipush, x_iload_4, x_iv_0, x_iv_3, jB4_pop_21, jB4_pop_65, jB4_pop_79, uB4_pop_0, uB4_pop_21, uB4_pop_65, uB4_pop_79, uB4_pop_132, n_0, n_1, n_2, n_3, n_4, n_5, n_6, n_7, n_8, n_9, n_10, n_12, n_13, n_15, n_16, n_20, n_24, n_60, n_64, n_72, n_96, n_192, n_256, n_400, n_808, n_960, n_1440, n_2048, n_2720, n_16777215, n_1000000, l_0, l_1, l_8, l_20, l_60, l_lt_t, l_lt_f, l_ge_t, l_ge_f, l_eq_t, l_eq_f, lN_i, nI_l, i_lt_t, i_lt_f, i_le_t, i_le_f, i_eq_t, i_eq_f, ↓n_m1, ↓n_m2, i_m1, i_m1s, i_m1lt, i_m1le, i_m1l2, i_m1l3, i_mm, nI_add, pk_mul, i_sub, i_dec, i_dec0, i_s01, i_div, Nat.reduceAdd, Nat.reduceSub, Nat.reduceMul, Nat.zero_add, if_true, if_false, not_true, not_false_eq_true, ↓reduceIte, e1, c_kind, tk]) (by simp (disch := first | exact q_two_i _ | exact q_two_r _ | exact q_two_n | exact q_sh0 | exact q_sh1 _ | exact q_sh2 _ _ | exact q_sh3 _ _ _ | exact q_sh4 _ _ _ _ | exact c_cl_5 hq | exact c_tc_5_3 _ | exact c_tc_5_7 _ | exact c_tc_5_8 _ | exact c_tc_5_12 _ | exact c_tc_5_13 _ | exact c_tc_5_15 _ | exact c_tc_5_16 _ | exact c_tc_5_17 _ | exact c_tc_5_18 _ | exact c_tc_5_19 _ | exact c_tc_5_21 _ | exact c_tc_5_22 _ | exact c_tc_5_20a | exact c_tc_5_20b | exact z_01 | exact z_11 | exact nz_24 | exact nz_16 | assumption | omega) only [eB5_pop, x_aload_0, x_iload_1, x_iload_2, x_iv_2, x_kx1, x_kx0, x_istore_3, x_iload_3, x_if_eq, x_iv_1, x_iconst, x_ic_ne, x_getf, c_gf_5_6, x_laload, x_lconst, x_lcmp, x_if_ne, x_ret_i, c_gf_5_12, x_bipush, x_dup2, x_lsub, x_lastore, x_imul, x_l2i, x_iadd, x_istore_4, c_gf_5_5, x_iload_4, x_iaload, x_istore_5, x_iastore, jB5_pop_31, jB5_pop_33, jB5_pop_45, uB5_pop_0, uB5_pop_31, uB5_pop_33, uB5_pop_45, uB5_pop_80, n_0, n_1, n_2, n_3, n_4, n_5, n_6, n_7, n_8, n_9, n_10, n_12, n_13, n_15, n_16, n_20, n_24, n_60, n_64, n_72, n_96, n_192, n_256, n_400, n_808, n_960, n_1440, n_2048, n_2720, n_16777215, n_1000000, l_0, l_1, l_8, l_20, l_60, l_lt_t, l_lt_f, l_ge_t, l_ge_f, l_eq_t, l_eq_f, lN_i, nI_l, i_lt_t, i_lt_f, i_le_t, i_le_f, i_eq_t, i_eq_f, ↓n_m1, ↓n_m2, i_m1, i_m1s, i_m1lt, i_m1le, i_m1l2, i_m1l3, i_mm, nI_add, pk_mul, i_sub, i_dec, i_dec0, i_s01, i_div, Nat.reduceAdd, Nat.reduceSub, Nat.reduceMul, Nat.zero_add, if_true, if_false, not_true, not_false_eq_true, ↓reduceIte, hq, e2, m_kind, p4, tk]) ⟨R, fl, ST_mono hI⟩ hN hB1
  obtain ⟨p0, hp02, hp0⟩ := y9 tk
  have hp0' : ps (s * 3) = nI p0 := hp0
  have p24 : p0 < 24 := by omega
  obtain ⟨hv, hl8, hpk⟩ : v = lN (f_len K) ∧ f_len K ≤ 8 ∧ ∀ i, i < f_len K → ps (s * 3 + 0) = nI (f_sh K i) := by
    rcases p2 with q | q | q | q | q
    · omega
    · omega
    · omega
    · omega
    · exact q.2
  obtain ⟨c1, c2, c3, c4⟩ := pC.1.2.2.2.2 tk
  dsimp only at c1 c2 c3 c4
  obtain ⟨l, hl⟩ : ∃ l, f_len K = l := ⟨_, rfl⟩
  rw [hv, hl] at p5
  rw [hl] at c3
  by_cases h8 : l = 0
  · subst h8
    obtain ⟨G1, hG1⟩ : ∃ G1, CO kn ks zs ps ce bt rt rl nb nr hsh hst ssh ih th wt os wn oc dr tm (nI a) g = G1 := ⟨_, rfl⟩
    obtain ⟨i1, i2, i3, e2, -⟩ := h2 G1 n m (d + 597)
    exact SS_mk1 (hoq := hq) (kn' := kn) (ks' := ks) (zs' := zs) (ps' := ps) (ce' := ce) (bt' := bt) (rt' := rt) (rl' := rl) (nb' := nb) (nr' := nr) (hsh' := hsh) (hst' := hst) (ssh' := ssh) (ih' := ih) (th' := th) (wt' := wt) (os' := os) (wn' := wn) (oc' := oc) (dr' := dr) (tm' := tm) (fa' := nI a) (ko' := ko) (q1' := q1) (q2' := q2) (q3' := q3) (cp' := cp) (so' := so) (ki' := ki) (nu' := nu) (no' := no) (sp' := sp) (hn' := hn) (sl' := sl) (ah' := ah) (isl' := i1) (inn' := i2) (atk' := i3) hq17 hg hG0 hG1 (r := .int mI) (by simp (disch := first | exact q_two_i _ | exact q_two_r _ | exact q_two_n | exact q_sh0 | exact q_sh1 _ | exact q_sh2 _ _ | exact q_sh3 _ _ _ | exact q_sh4 _ _ _ _ | exact c_cl_0 .. | exact c_cl_1 .. | exact c_cl_2 .. | exact c_cl_3 .. | exact c_cl_4 .. | exact c_tc_4_4 _ | exact c_tc_4_5 _ | exact c_tc_3_3 _ | exact c_tc_2_4 _ | exact c_tc_2_5 _ | exact c_tc_1_3 _ | exact c_tc_1_4 _ | exact c_tc_0_4 _ | exact c_tc_0_5 _ | exact c_tc_0_6 _ | exact z_01 | exact z_11 | exact nz_24 | exact nz_16 | assumption | omega) only [eB4_pop, x_aload_0, x_iload_1, x_iload_2, x_iv_2, x_kx1, x_kx0, x_istore_3, x_getf, c_gf_4_0, x_iload_3, x_iv_1, x_iconst, x_ic_eq, x_ret_i, x_istore_4, c_gf_4_1, c_gf_4_5, x_lstore_5, x_lload_5, x_isub, x_istore_7, x_iload_7, x_if_ge, c_gf_4_2, x_if_ne, x_bipush, x_iload_4, x_iv_0, x_iv_3, jB4_pop_21, jB4_pop_65, jB4_pop_79, uB4_pop_0, uB4_pop_21, uB4_pop_65, uB4_pop_79, uB4_pop_132, n_0, n_1, n_2, n_3, n_4, n_5, n_6, n_7, n_8, n_9, n_10, n_12, n_13, n_15, n_16, n_20, n_24, n_60, n_64, n_72, n_96, n_192, n_256, n_400, n_808, n_960, n_1440, n_2048, n_2720, n_16777215, n_1000000, l_0, l_1, l_8, l_20, l_60, l_lt_t, l_lt_f, l_ge_t, l_ge_f, l_eq_t, l_eq_f, lN_i, nI_l, i_lt_t, i_lt_f, i_le_t, i_le_f, i_eq_t, i_eq_f, ↓n_m1, ↓n_m2, i_m1, i_m1s, i_m1lt, i_m1le, i_m1l2, i_m1l3, i_mm, nI_add, pk_mul, i_sub, i_dec, i_dec0, i_s01, i_div, Nat.reduceAdd, Nat.reduceSub, Nat.reduceMul, Nat.zero_add, if_true, if_false, not_true, not_false_eq_true, ↓reduceIte, e1, c_kind, tk, c_part, hp0, hp0', c_read, c1, c_len, c3]) (by simp (disch := first | exact q_two_i _ | exact q_two_r _ | exact q_two_n | exact q_sh0 | exact q_sh1 _ | exact q_sh2 _ _ | exact q_sh3 _ _ _ | exact q_sh4 _ _ _ _ | exact c_cl_5 hq | exact c_tc_5_3 _ | exact c_tc_5_7 _ | exact c_tc_5_8 _ | exact c_tc_5_12 _ | exact c_tc_5_13 _ | exact c_tc_5_15 _ | exact c_tc_5_16 _ | exact c_tc_5_17 _ | exact c_tc_5_18 _ | exact c_tc_5_19 _ | exact c_tc_5_21 _ | exact c_tc_5_22 _ | exact c_tc_5_20a | exact c_tc_5_20b | exact z_01 | exact z_11 | exact nz_24 | exact nz_16 | assumption | omega) only [eB5_pop, x_aload_0, x_iload_1, x_iload_2, x_iv_2, x_kx1, x_kx0, x_istore_3, x_iload_3, x_if_eq, x_iv_1, x_iconst, x_ic_ne, x_getf, c_gf_5_6, x_laload, x_lconst, x_lcmp, x_if_ne, x_ret_i, c_gf_5_12, x_bipush, x_dup2, x_lsub, x_lastore, x_imul, x_l2i, x_iadd, x_istore_4, c_gf_5_5, x_iload_4, x_iaload, x_istore_5, x_iastore, jB5_pop_31, jB5_pop_33, jB5_pop_45, uB5_pop_0, uB5_pop_31, uB5_pop_33, uB5_pop_45, uB5_pop_80, n_0, n_1, n_2, n_3, n_4, n_5, n_6, n_7, n_8, n_9, n_10, n_12, n_13, n_15, n_16, n_20, n_24, n_60, n_64, n_72, n_96, n_192, n_256, n_400, n_808, n_960, n_1440, n_2048, n_2720, n_16777215, n_1000000, l_0, l_1, l_8, l_20, l_60, l_lt_t, l_lt_f, l_ge_t, l_ge_f, l_eq_t, l_eq_f, lN_i, nI_l, i_lt_t, i_lt_f, i_le_t, i_le_f, i_eq_t, i_eq_f, ↓n_m1, ↓n_m2, i_m1, i_m1s, i_m1lt, i_m1le, i_m1l2, i_m1l3, i_mm, nI_add, pk_mul, i_sub, i_dec, i_dec0, i_s01, i_div, Nat.reduceAdd, Nat.reduceSub, Nat.reduceMul, Nat.zero_add, if_true, if_false, not_true, not_false_eq_true, ↓reduceIte, hq, e2, m_kind, p4, tk, c_g_q3, p5]) ⟨R, fl, ST_mono hI⟩ hN hB1
  obtain ⟨l0, hl0⟩ : ∃ l0, l = l0 + 1 := ⟨l - 1, by omega⟩
  subst hl0
  by_cases h24 : ih = 24
  · subst h24
    obtain ⟨G1, hG1⟩ : ∃ G1, CO kn ks zs ps ce bt rt rl nb nr hsh hst ssh (24) th wt os wn oc dr tm (nI a) g = G1 := ⟨_, rfl⟩
    obtain ⟨i1, i2, i3, e2, -⟩ := h2 G1 n m (d + 597)
    exact SS_mk1 (hoq := hq) (kn' := kn) (ks' := ks) (zs' := zs) (ps' := ps) (ce' := ce) (bt' := bt) (rt' := rt) (rl' := rl) (nb' := nb) (nr' := nr) (hsh' := hsh) (hst' := hst) (ssh' := ssh) (ih' := 24) (th' := th) (wt' := wt) (os' := os) (wn' := wn) (oc' := oc) (dr' := dr) (tm' := tm) (fa' := nI a) (ko' := ko) (q1' := q1) (q2' := q2) (q3' := q3) (cp' := cp) (so' := so) (ki' := ki) (nu' := nu) (no' := no) (sp' := sp) (hn' := hn) (sl' := sl) (ah' := ah) (isl' := i1) (inn' := i2) (atk' := i3) hq17 hg hG0 hG1 (r := .int fI) (by simp (disch := first | exact q_two_i _ | exact q_two_r _ | exact q_two_n | exact q_sh0 | exact q_sh1 _ | exact q_sh2 _ _ | exact q_sh3 _ _ _ | exact q_sh4 _ _ _ _ | exact c_cl_0 .. | exact c_cl_1 .. | exact c_cl_2 .. | exact c_cl_3 .. | exact c_cl_4 .. | exact c_tc_4_4 _ | exact c_tc_4_5 _ | exact c_tc_3_3 _ | exact c_tc_2_4 _ | exact c_tc_2_5 _ | exact c_tc_1_3 _ | exact c_tc_1_4 _ | exact c_tc_0_4 _ | exact c_tc_0_5 _ | exact c_tc_0_6 _ | exact z_01 | exact z_11 | exact nz_24 | exact nz_16 | assumption | omega) only [eB4_pop, x_aload_0, x_iload_1, x_iload_2, x_iv_2, x_kx1, x_kx0, x_istore_3, x_getf, c_gf_4_0, x_iload_3, x_iv_1, x_iconst, x_ic_eq, x_ret_i, x_istore_4, c_gf_4_1, c_gf_4_5, x_lstore_5, x_lload_5, x_isub, x_istore_7, x_iload_7, x_if_ge, c_gf_4_2, x_if_ne, x_bipush, x_iload_4, x_iv_0, x_iv_3, jB4_pop_21, jB4_pop_65, jB4_pop_79, uB4_pop_0, uB4_pop_21, uB4_pop_65, uB4_pop_79, uB4_pop_132, n_0, n_1, n_2, n_3, n_4, n_5, n_6, n_7, n_8, n_9, n_10, n_12, n_13, n_15, n_16, n_20, n_24, n_60, n_64, n_72, n_96, n_192, n_256, n_400, n_808, n_960, n_1440, n_2048, n_2720, n_16777215, n_1000000, l_0, l_1, l_8, l_20, l_60, l_lt_t, l_lt_f, l_ge_t, l_ge_f, l_eq_t, l_eq_f, lN_i, nI_l, i_lt_t, i_lt_f, i_le_t, i_le_f, i_eq_t, i_eq_f, ↓n_m1, ↓n_m2, i_m1, i_m1s, i_m1lt, i_m1le, i_m1l2, i_m1l3, i_mm, nI_add, pk_mul, i_sub, i_dec, i_dec0, i_s01, i_div, Nat.reduceAdd, Nat.reduceSub, Nat.reduceMul, Nat.zero_add, if_true, if_false, not_true, not_false_eq_true, ↓reduceIte, e1, c_kind, tk, c_part, hp0, hp0', c_read, c1, c_len, c3, c_roomN (nI 1) 25 (nI_add 24 1), Nat.add_sub_cancel]) (by simp (disch := first | exact q_two_i _ | exact q_two_r _ | exact q_two_n | exact q_sh0 | exact q_sh1 _ | exact q_sh2 _ _ | exact q_sh3 _ _ _ | exact q_sh4 _ _ _ _ | exact c_cl_5 hq | exact c_tc_5_3 _ | exact c_tc_5_7 _ | exact c_tc_5_8 _ | exact c_tc_5_12 _ | exact c_tc_5_13 _ | exact c_tc_5_15 _ | exact c_tc_5_16 _ | exact c_tc_5_17 _ | exact c_tc_5_18 _ | exact c_tc_5_19 _ | exact c_tc_5_21 _ | exact c_tc_5_22 _ | exact c_tc_5_20a | exact c_tc_5_20b | exact z_01 | exact z_11 | exact nz_24 | exact nz_16 | assumption | omega) only [eB5_pop, x_aload_0, x_iload_1, x_iload_2, x_iv_2, x_kx1, x_kx0, x_istore_3, x_iload_3, x_if_eq, x_iv_1, x_iconst, x_ic_ne, x_getf, c_gf_5_6, x_laload, x_lconst, x_lcmp, x_if_ne, x_ret_i, c_gf_5_12, x_bipush, x_dup2, x_lsub, x_lastore, x_imul, x_l2i, x_iadd, x_istore_4, c_gf_5_5, x_iload_4, x_iaload, x_istore_5, x_iastore, jB5_pop_31, jB5_pop_33, jB5_pop_45, uB5_pop_0, uB5_pop_31, uB5_pop_33, uB5_pop_45, uB5_pop_80, n_0, n_1, n_2, n_3, n_4, n_5, n_6, n_7, n_8, n_9, n_10, n_12, n_13, n_15, n_16, n_20, n_24, n_60, n_64, n_72, n_96, n_192, n_256, n_400, n_808, n_960, n_1440, n_2048, n_2720, n_16777215, n_1000000, l_0, l_1, l_8, l_20, l_60, l_lt_t, l_lt_f, l_ge_t, l_ge_f, l_eq_t, l_eq_f, lN_i, nI_l, i_lt_t, i_lt_f, i_le_t, i_le_f, i_eq_t, i_eq_f, ↓n_m1, ↓n_m2, i_m1, i_m1s, i_m1lt, i_m1le, i_m1l2, i_m1l3, i_mm, nI_add, pk_mul, i_sub, i_dec, i_dec0, i_s01, i_div, Nat.reduceAdd, Nat.reduceSub, Nat.reduceMul, Nat.zero_add, if_true, if_false, not_true, not_false_eq_true, ↓reduceIte, hq, e2, m_kind, p4, tk, c_g_q3, p5]) ⟨R, fl, ST_mono hI⟩ hN hB1
  have h24' : ih < 24 := by omega
  have hb : ih < 120 := by omega
  have hr : 24 + j0 < 120 := by omega
  have hrb : 24 + j0 ≠ ih := by omega
  have hlf : R ih = .leaf := f_len0 (by have := (hT ih (by omega)).1; have := (hL.1 ih (by omega)).mp; rcases Nat.lt_or_ge (f_len (R ih)) 1 with q | q
                                        · omega
                                        · exact absurd (this (by omega)) (by omega))
  obtain ⟨K0, T, rfl, hK0, hTl⟩ := f_last l0 K hl
  obtain ⟨s1, k1, v1, K1, hTe⟩ := f_one hTl
  obtain ⟨x1, j1⟩ := k1
  have hTKT := (f_app_T _ _).mp p3
  have hs1 : s1 = p0 := by
    have q := hpk l0 (by omega)
    rw [f_app_sh, if_neg (by omega), hK0, Nat.sub_self, hTe, hp0] at q
    have q2 := hTKT.2
    rw [hTe] at q2
    have := q2.1
    exact (nI_inj (by omega) (by simp only [f_sh]; omega) q).symm
  subst hs1
  have hz8 := (hS.2 s1 (by omega)).2.2.1
  have hx1 : ki (8 * x + l0) = x1 := by
    rw [p6 l0 (by omega), f_app_rt, if_neg (by omega), hK0, Nat.sub_self, hTe]; rfl
  have hxc := fb_Ale (fA_cx x) p _ hp
  simp only [if_true] at hxc
  have hxa := f_app_A (fA_cx x) K0 T
  have hxg := rF_ge (f_cx x) R hr
  have hxu := hR.2.1 x
  have hcbj := fb_Ale (fA_cb ks 5 j) p _ hp
  dsimp only at hcbj
  rw [if_pos ⟨tk, rfl⟩] at hcbj
  have hcba := f_app_A (fA_cb ks 5 j) K0 T
  have hcbg := rF_ge (f_cb ks 5 j) R hr
  have hrtj := hC.2.2.1 j
  obtain ⟨ce2, hce2⟩ : ∃ ce2, va_cpy ce ce (1440 + j * 64 + l0 * 8) (ih * 8) (zs s1) = ce2 := ⟨_, rfl⟩
  have hcc : ∀ q, ¬ (8 * ih ≤ q ∧ q < 8 * ih + 8) → ce2 q = ce q := fun q h => by rw [← hce2, mvc, if_neg (by omega)]
  obtain ⟨G1, hG1⟩ : ∃ G1, CO kn ks zs ps (ce2) bt rt (upN rl j l0) nb nr (upN hsh ih s1) hst ssh (ih + 1) th wt os wn oc dr tm (nI a) g = G1 := ⟨_, rfl⟩
  obtain ⟨i1, i2, i3, e2, -⟩ := h2 G1 n m (d + 597)
  have hrl : ∀ z, z ≠ j → upN rl j l0 z = rl z := fun z hz => upN_n _ _ hz
  obtain ⟨d1, d2⟩ := (f_app_C _ _ _ _).mp c4
  rw [f_extT, hK0] at d2
  have hblk : ∀ c, 960 ≤ c → ce2 c = ce c := fun c h => hcc c (by omega)
  have hokK0 : f_okC ks zs ce2 (upN rl j l0) K0 (1440 + j * 64) true := okC_fr hS K0 _ _ hTKT.1 d1 (fun c hc => hblk c (by
    have q1 := f_cc_le hS hk c K0 (1440 + j * 64, true) hTKT.1
    have q2 := c_blk_eq (ks := ks) (c := c) K0
    dsimp only at q1 hc
    rcases Nat.lt_or_ge c 960 with q | q
    · rw [if_neg (by omega), if_neg (by omega)] at q2
      have q3 : c_inl c (1440 + j * 64) (f_ext zs K0 true) = 0 := if_neg (by omega)
      omega
    · exact q)) (fun z hz => hrl z (fun e => by subst e; omega))
  have hokT : f_okC ks zs ce2 (upN rl j l0) T (8 * ih) false := by
    have d3 : f_okC ks zs ce rl T (1440 + j * 64 + 8 * l0) false := by rw [hTe] at d2 ⊢; exact ⟨d2.1, trivial⟩
    refine f_okC_mv hS hk T _ (8 * ih) false hTKT.2 d3 (fun i hi => ?_) (fun z hz i hi => hblk _ (by omega)) (fun z hz => ⟨hrl z (fun e => by subst e; omega), fun i hi => hblk _ (by omega)⟩)
    rw [hTe] at hi
    simp only [f_ext, Bool.false_eq_true, if_false, Nat.add_zero] at hi
    rw [← hce2, mvc, if_pos (by omega)]; congr 1; omega
  have hcell : ∀ r, r < 120 → r ≠ ih → ∀ c, 0 < f_cc ks zs c (R r) (8 * r, false) → ce2 c = ce c := fun r hr' hne c hc => hcc c (fun h => by
    have q1 := uC_cc hS hk hT hr' c
    have q2 := uC_two hS hT hC hr' hb hne c
    have q3 : uC ks R ih c = c_inl c (8 * ih) 8 + c_blk ks c (R ih) := rfl
    rw [c_inl_1 h] at q3
    omega)
  have hokB : f_okC ks zs ce2 (upN rl j l0) (b_set (x, j) (lN l0) K0 (R (24 + j0)) p) (8 * (24 + j0)) false := by
    refine okC_set hS hk p (R (24 + j0)) (8 * (24 + j0), false) (hT _ hr).2 hp (hC.1 _ hr) ?_ (fun c hc => hcell _ hr hrb c (by omega)) (fun z hz => hrl z (fun e => ?_))
    · rw [hy]
      exact ⟨⟨fun h => by omega, fun h => by omega, fun h => by omega, fun h => by omega, fun _ => ⟨by rw [hcc a (by omega)]; exact c1, c2, by rw [upN_s, hK0], hokK0⟩⟩, trivial⟩
    · subst e
      have q : f_cb ks 5 z (.inner s (x, z) v (f_app K0 T) .leaf) = (if ks s = 5 ∧ z = z then 1 else 0) + f_cb ks 5 z (f_app K0 T) + 0 := rfl
      rw [if_pos ⟨tk, rfl⟩] at q
      omega
  have hAP : ∀ {f : Fo → Nat} {φ : Nat → Nat × Nat → Nat}, fA f φ → rF f (upN (upN R ih T) (24 + j0) (b_set (x, j) (lN l0) K0 (R (24 + j0)) p)) = rF f R := fun h => rF_po h hr hb hrb hp hlf
  have hty : f_ty ks ps s (lN l0) K0 := by
    refine Or.inr (Or.inr (Or.inr (Or.inr ⟨tk, by rw [hK0], by omega, fun i hi => ?_⟩)))
    have q := hpk i (by omega)
    rw [f_app_sh, if_pos hi] at q
    exact q
  have hIT : IT kn ks ps (upN (upN R ih T) (24 + j0) (b_set (x, j) (lN l0) K0 (R (24 + j0)) p)) := IT_up (IT_up hT (by omega) hTKT.2) (by rw [fb_len]; exact (hT _ hr).1) (fb_T hty hTKT.1 p _ hp (hT _ hr).2)
  have hnx : ∀ z, z ≠ x → upN nu x (lN l0) z = nu z ∧ ∀ i, i < 8 → upN ki (8 * x + l0) 0 (8 * z + i) = ki (8 * z + i) := fun z hz => ⟨upN_n _ _ hz, fun i hi => upN_n _ _ (by omega)⟩
  have hro : ∀ r, r < 120 → r ≠ 24 + j0 → f_okR so (upN ki (8 * x + l0) 0) (upN nu x (lN l0)) (R r) := fun r hr' hne => f_okR_kp (hR.1 r hr') (fun z hz => ⟨rfl, hnx z (fun e => by
    subst e
    have := rF_two (f_cx z) R hr' hr hne
    omega)⟩)
  have hRp := fb_Rat p _ (hR.1 _ hr)
  rw [hp] at hRp
  have hRKT := (f_app_R _ _).mp hRp.2.1
  have hrK : f_okR so (upN ki (8 * x + l0) 0) (upN nu x (lN l0)) K0 := f_okR_kp hRKT.1 (fun z hz => ⟨rfl, hnx z (fun e => by subst e; omega)⟩)
  have hrT : f_okR so (upN ki (8 * x + l0) 0) (upN nu x (lN l0)) T := f_okR_kp hRKT.2 (fun z hz => ⟨rfl, hnx z (fun e => by subst e; omega)⟩)
  have hrB : f_okR so (upN ki (8 * x + l0) 0) (upN nu x (lN l0)) (b_set (x, j) (lN l0) K0 (R (24 + j0)) p) := by
    refine fb_R (k := (x, j)) (j' := j) ⟨p4, upN_s _ _ _, fun i hi => ?_⟩ hrK p _ hp (hR.1 _ hr) (fun z hz => hnx z (fun e => ?_))
    · by_cases e : i = l0
      · subst e
        rw [upN_s, f_rt_0 K0 i (by omega)]
      · rw [upN_n _ _ (by dsimp only; omega)]
        have q1 := p6 i hi
        dsimp only
        rw [q1, f_app_rt]
        by_cases e2 : i < f_len K0
        · rw [if_pos e2]
        · rw [if_neg e2, f_rt_0 K0 i (by omega), f_rt_0 T _ (by omega)]
    · subst e
      have q : f_cx z (.inner s (z, j) v (f_app K0 T) .leaf) = (if z = z then 1 else 0) + f_cx z (f_app K0 T) + 0 := rfl
      rw [if_pos rfl] at q
      omega
  have hST : ST (c + 1) kn ks zs ps (ce2) bt rt (upN rl j l0) nb nr (upN hsh ih s1) hst ssh (ih + 1) th oc ko q1 q2 q3 cp so (upN ki (8 * x + l0) 0) (upN nu x (lN l0)) no sp (upN hn ih x1) sl ah (upN (upN R ih T) (24 + j0) (b_set (x, j) (lN l0) K0 (R (24 + j0)) p)) fl := by
    refine ⟨⟨hS, hk⟩, hK, ⟨⟨f1, f2⟩, by omega, f4, f5, by omega, f7⟩, hIT, ⟨fun r hr' => ?_, fun r h h' => ?_, fun r hr' => ?_, fun i hi => ?_⟩, ⟨fun r hr' => ?_, fun z => ?_, fun z => ?_, ?_, ?_⟩, ⟨fun r hr' => ?_, fun z => ?_, fun z hz => ?_, ?_⟩, hO, ⟨?_, hBd.2⟩, ⟨hq, hq17⟩, hcp.1, hcp.2.1, hcp.2.2.1, by omega⟩
    · rw [upN_n _ _ (by omega)]
      by_cases e : r = ih
      · subst e; rw [upN_s]; exact ⟨fun _ => by omega, fun _ => hTl⟩
      · rw [upN_n _ _ e, hL.1 r hr']; omega
    · have hlf := hL.2.1 r h h'
      by_cases e : r = 24 + j0
      · subst e
        exfalso
        rw [hlf] at hp
        cases p <;> simp [b_at] at hp
      · rw [upN_n _ _ e, upN_n _ _ (by omega)]; exact hlf
    · by_cases e : r = ih
      · subst e; rw [upN_s, upN_s, upN_n _ _ (by omega), upN_s, hTe]; exact ⟨rfl, rfl⟩
      · rw [upN_n _ _ e, upN_n _ _ e, upN_n _ _ (by omega), upN_n _ _ e]; exact hL.2.2.1 r (by omega)
    · by_cases e : i = j0
      · subst e; rw [upN_s, s_slot_b, fb_rt (k := (x, j)) rfl p _ 0 hp]; exact hL.2.2.2 i hi
      · rw [upN_n _ _ (by omega), upN_n _ _ (by omega)]; exact hL.2.2.2 i hi
    · by_cases e : r = 24 + j0
      · subst e; rw [upN_s]; exact hokB
      · rw [upN_n _ _ e]
        by_cases e2 : r = ih
        · subst e2; rw [upN_s]; exact hokT
        · rw [upN_n _ _ e2]
          refine okC_fr hS (R r) (8 * r) false (hT r hr').2 (hC.1 r hr') (hcell r hr' e2) (fun z hz => hrl z (fun e3 => ?_))
          subst e3
          have := rF_two (f_cb ks 5 z) R hr' hr e
          omega
    · rw [hAP (fA_cb ks 4 z)]; exact hC.2.1 z
    · rw [hAP (fA_cb ks 5 z)]; exact hC.2.2.1 z
    · rw [hAP (fA_nk ks 4)]; exact hC.2.2.2.1
    · rw [hAP (fA_nk ks 5)]; exact hC.2.2.2.2
    · by_cases e : r = 24 + j0
      · subst e; rw [upN_s]; exact hrB
      · rw [upN_n _ _ e]
        by_cases e2 : r = ih
        · subst e2; rw [upN_s]; exact hrT
        · rw [upN_n _ _ e2]; exact hro r hr' e
    · rw [hAP (fA_cx z)]; exact hR.2.1 z
    · rw [hAP (fA_cx z)] at hz; exact hR.2.2.1 z hz
    · refine fr_keep hR.2.2.2 (fun z hz => ?_)
      refine upN_n _ _ (fun e => ?_)
      have : z = x := by omega
      subst this
      have := List.count_pos_iff.mpr hz
      omega
    · rw [hAP fA_sz]; omega
  have h3q : q2 ≠ 0 := by omega
  have h3q3 : q3 ≠ 0 := by omega
  have els : lN (l0 + 1) - lN 1 = lN l0 := by rw [← lN_add]; exact Int64.add_sub_cancel _ _
  exact SS_mk1 (hoq := hq) (kn' := kn) (ks' := ks) (zs' := zs) (ps' := ps) (ce' := ce2) (bt' := bt) (rt' := rt) (rl' := upN rl j l0) (nb' := nb) (nr' := nr) (hsh' := upN hsh ih s1) (hst' := hst) (ssh' := ssh) (ih' := ih + 1) (th' := th) (wt' := wt) (os' := os) (wn' := wn) (oc' := oc) (dr' := dr) (tm' := tm) (fa' := nI a) (ko' := ko) (q1' := q1) (q2' := q2) (q3' := q3) (cp' := cp) (so' := so) (ki' := upN ki (8 * x + l0) 0) (nu' := upN nu x (lN l0)) (no' := no) (sp' := sp) (hn' := upN hn ih x1) (sl' := sl) (ah' := ah) (isl' := i1) (inn' := i2) (atk' := i3) hq17 hg hG0 hG1 (r := .int (nI l0)) (by simp (disch := first | exact q_two_i _ | exact q_two_r _ | exact q_two_n | exact q_sh0 | exact q_sh1 _ | exact q_sh2 _ _ | exact q_sh3 _ _ _ | exact q_sh4 _ _ _ _ | exact c_cl_0 .. | exact c_cl_1 .. | exact c_cl_2 .. | exact c_cl_3 .. | exact c_cl_4 .. | exact c_tc_4_4 _ | exact c_tc_4_5 _ | exact c_tc_3_3 _ | exact c_tc_2_4 _ | exact c_tc_2_5 _ | exact c_tc_1_3 _ | exact c_tc_1_4 _ | exact c_tc_0_4 _ | exact c_tc_0_5 _ | exact c_tc_0_6 _ | exact z_01 | exact z_11 | exact nz_24 | exact nz_16 | assumption | omega) only [eB4_pop, x_aload_0, x_iload_1, x_iload_2, x_iv_2, x_kx1, x_kx0, x_istore_3, x_getf, c_gf_4_0, x_iload_3, x_iv_1, x_iconst, x_ic_eq, x_ret_i, x_istore_4, c_gf_4_1, c_gf_4_5, x_lstore_5, x_lload_5, x_isub, x_istore_7, x_iload_7, x_if_ge, c_gf_4_2, x_if_ne, x_bipush, x_iload_4, x_iv_0, x_iv_3, jB4_pop_21, jB4_pop_65, jB4_pop_79, uB4_pop_0, uB4_pop_21, uB4_pop_65, uB4_pop_79, uB4_pop_132, n_0, n_1, n_2, n_3, n_4, n_5, n_6, n_7, n_8, n_9, n_10, n_12, n_13, n_15, n_16, n_20, n_24, n_60, n_64, n_72, n_96, n_192, n_256, n_400, n_808, n_960, n_1440, n_2048, n_2720, n_16777215, n_1000000, l_0, l_1, l_8, l_20, l_60, l_lt_t, l_lt_f, l_ge_t, l_ge_f, l_eq_t, l_eq_f, lN_i, nI_l, i_lt_t, i_lt_f, i_le_t, i_le_f, i_eq_t, i_eq_f, ↓n_m1, ↓n_m2, i_m1, i_m1s, i_m1lt, i_m1le, i_m1l2, i_m1l3, i_mm, nI_add, pk_mul, i_sub, i_dec, i_dec0, i_s01, i_div, Nat.reduceAdd, Nat.reduceSub, Nat.reduceMul, Nat.zero_add, if_true, if_false, not_true, not_false_eq_true, ↓reduceIte, e1, c_kind, tk, c_part, hp0, hp0', c_read, c1, c_len, c3, c_room (nI 1) (ih + 1) (nI_add ih 1), c_lay, c_eltAt, c_tAt, Nat.add_sub_cancel, c_size, c_move, hce2, c_setLen]) (by simp (disch := first | exact q_two_i _ | exact q_two_r _ | exact q_two_n | exact q_sh0 | exact q_sh1 _ | exact q_sh2 _ _ | exact q_sh3 _ _ _ | exact q_sh4 _ _ _ _ | exact c_cl_5 hq | exact c_tc_5_3 _ | exact c_tc_5_7 _ | exact c_tc_5_8 _ | exact c_tc_5_12 _ | exact c_tc_5_13 _ | exact c_tc_5_15 _ | exact c_tc_5_16 _ | exact c_tc_5_17 _ | exact c_tc_5_18 _ | exact c_tc_5_19 _ | exact c_tc_5_21 _ | exact c_tc_5_22 _ | exact c_tc_5_20a | exact c_tc_5_20b | exact z_01 | exact z_11 | exact nz_24 | exact nz_16 | assumption | omega) only [eB5_pop, x_aload_0, x_iload_1, x_iload_2, x_iv_2, x_kx1, x_kx0, x_istore_3, x_iload_3, x_if_eq, x_iv_1, x_iconst, x_ic_ne, x_getf, c_gf_5_6, x_laload, x_lconst, x_lcmp, x_if_ne, x_ret_i, c_gf_5_12, x_bipush, x_dup2, x_lsub, x_lastore, x_imul, x_l2i, x_iadd, x_istore_4, c_gf_5_5, x_iload_4, x_iaload, x_istore_5, x_iastore, jB5_pop_31, jB5_pop_33, jB5_pop_45, uB5_pop_0, uB5_pop_31, uB5_pop_33, uB5_pop_45, uB5_pop_80, n_0, n_1, n_2, n_3, n_4, n_5, n_6, n_7, n_8, n_9, n_10, n_12, n_13, n_15, n_16, n_20, n_24, n_60, n_64, n_72, n_96, n_192, n_256, n_400, n_808, n_960, n_1440, n_2048, n_2720, n_16777215, n_1000000, l_0, l_1, l_8, l_20, l_60, l_lt_t, l_lt_f, l_ge_t, l_ge_f, l_eq_t, l_eq_f, lN_i, nI_l, i_lt_t, i_lt_f, i_le_t, i_le_f, i_eq_t, i_eq_f, ↓n_m1, ↓n_m2, i_m1, i_m1s, i_m1lt, i_m1le, i_m1l2, i_m1l3, i_mm, nI_add, pk_mul, i_sub, i_dec, i_dec0, i_s01, i_div, Nat.reduceAdd, Nat.reduceSub, Nat.reduceMul, Nat.zero_add, if_true, if_false, not_true, not_false_eq_true, ↓reduceIte, hq, e2, m_kind, p4, tk, c_g_q3, p5, c_p_q3, els, upN_s, c_g_q2, hx1, m_comes, c_p_q2]) ⟨_, fl, hST⟩ hN hB1
