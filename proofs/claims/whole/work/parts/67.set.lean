/-! set. -/
theorem rF_st {f : Fo → Nat} {φ : Nat → Nat × Nat → Nat} (h : fA f φ) {R : Nat → Fo} {r b s : Nat} {k k1 : Nat × Nat} {v v1 : Int64} {K K1 N : Fo} {p : List Bool} (hr : r < 120) (hb : b < 120) (hrb : r ≠ b) (hp : b_at (R r) p = .inner s k v K N) (h1 : R b = .inner s k1 v1 K1 .leaf) : rF f (upN (upN R b .leaf) r (b_set k1 v1 K1 (R r) p)) + f (.inner s k v K .leaf) = rF f R := by
  have e1 := rF_up f R b .leaf hb
  have e2 := rF_up f (upN R b .leaf) r (b_set k1 v1 K1 (R r) p) hr
  have e3 := fb_A h (k' := k1) (v' := v1) (K' := K1) p (R r) hp
  rw [h1, h.2, h.1] at e1
  rw [upN_n _ _ hrb] at e2
  rw [h.2, h.1]
  omega
theorem s_set {e0 : Option am_E} {d c n m : Nat} {kn : Nat} {ks zs : Nat → Nat} {ps : Nat → Int32} {ce : Nat → Int64} {bt rt rl : Nat → Nat} {nb nr : Nat} {hsh hst : Nat → Nat} {ssh : Nat → Int32} {ih th : Nat} {wt : Nat → Nat} {os : Nat → Int64} {wn oc dr tm : Nat} {fa : Int32} {ko : Nat → Int32} {q1 q2 q3 cp : Nat} {so ki : Nat → Nat} {nu : Nat → Int64} {no sp : Nat} {hn sl ah : Nat → Nat} {isl inn atk : Nat} {g : Nat → Option am_E} {R : Nat → Fo} {fl : List Nat} (hI : ST c kn ks zs ps ce bt rt rl nb nr hsh hst ssh ih th oc ko q1 q2 q3 cp so ki nu no sp hn sl ah R fl) (hN : NQ n q1 q2 q3) (hg : g 0 = e0) (hB : n ≤ 28 + 3 * c ∧ m ≤ 20000 + 10260 * c) (hc5 : c < 512) (xs xp : Int32) : SS e0 (d + 600) 73 136 [.int xs, .int xp] c (n, m, CO kn ks zs ps ce bt rt rl nb nr hsh hst ssh ih th wt os wn oc dr tm fa (RO kn ks zs ko q1 q2 q3 cp so ki nu no sp hn sl ah ih th os oc nb nr tm dr isl inn atk g)) := by
  obtain ⟨⟨hS, hk⟩, hK, hF, hT, hL, hC, hR, hO, hBd, ⟨hq, hq17⟩, hcp⟩ := id hI
  have hB1 : n ≤ 28 + 3 * (c + 1) ∧ m ≤ 20000 + 10260 * (c + 1) := ⟨by omega, by omega⟩
  obtain ⟨⟨f1, f2⟩, f3, f4, f5, f6, f7⟩ := id hF
  obtain ⟨b0, hb0⟩ : ∃ b0, hst (th - 1) = b0 := ⟨_, rfl⟩
  have hb3 : b0 ≤ ih := by rw [← hb0]; exact f6
  have ha0 : ah th = b0 := by rw [← hb0, ← f7 (th - 1) (by omega), Nat.sub_add_cancel f1]
  have hb4 : ah th ≤ ih := by rw [ha0]; exact hb3
  have f0 : 0 < th := f1
  have f13 : th < 13 := by omega
  obtain ⟨G0, hG0⟩ : ∃ G0, RO kn ks zs ko q1 q2 q3 cp so ki nu no sp hn sl ah ih th os oc nb nr tm dr isl inn atk g = G0 := ⟨_, rfl⟩
  have hcp1 := hcp.1
  rcases sk (kn := kn) (ks := ks) (zs := zs) (ps := ps) (ce := ce) (bt := bt) (rt := rt) (rl := rl) (nb := nb) (nr := nr) (hsh := hsh) (hst := hst) (ssh := ssh) (ih := ih) (th := th) (wt := wt) (os := os) (wn := wn) (oc := oc) (dr := dr) (tm := tm) (fa := fa) (ko := ko) (q1 := q1) (q2 := q2) (q3 := q3) (cp := cp) (so := so) (ki := ki) (nu := nu) (no := no) (sp := sp) (hn := hn) (sl := sl) (ah := ah) (isl := isl) (inn := inn) (atk := atk) hI xs xp with ⟨h1, h2⟩ | ⟨j0, p, s, x, j, v, K, N, hj, hp, h1, h2⟩
  · obtain ⟨y, e1⟩ := h1 G0 n m (d + 593)
    obtain ⟨G1, hG1⟩ : ∃ G1, CO kn ks zs ps ce bt rt rl nb nr hsh hst ssh ih th wt os wn oc dr tm (y) g = G1 := ⟨_, rfl⟩
    obtain ⟨i1, i2, i3, e2⟩ := h2 G1 n m (d + 597)
    exact SS_mk1 (hoq := hq) (kn' := kn) (ks' := ks) (zs' := zs) (ps' := ps) (ce' := ce) (bt' := bt) (rt' := rt) (rl' := rl) (nb' := nb) (nr' := nr) (hsh' := hsh) (hst' := hst) (ssh' := ssh) (ih' := ih) (th' := th) (wt' := wt) (os' := os) (wn' := wn) (oc' := oc) (dr' := dr) (tm' := tm) (fa' := y) (ko' := ko) (q1' := q1) (q2' := q2) (q3' := q3) (cp' := cp) (so' := so) (ki' := ki) (nu' := nu) (no' := no) (sp' := sp) (hn' := hn) (sl' := sl) (ah' := ah) (isl' := i1) (inn' := i2) (atk' := i3) hq17 hg hG0 hG1 (r := .int mI) (by simp (disch := first | exact q_two_i _ | exact q_two_r _ | exact q_two_n | exact q_sh0 | exact q_sh1 _ | exact q_sh2 _ _ | exact q_sh3 _ _ _ | exact q_sh4 _ _ _ _ | exact c_cl_0 .. | exact c_cl_1 .. | exact c_cl_2 .. | exact c_cl_3 .. | exact c_cl_4 .. | exact c_tc_4_4 _ | exact c_tc_4_5 _ | exact c_tc_3_3 _ | exact c_tc_2_4 _ | exact c_tc_2_5 _ | exact c_tc_1_3 _ | exact c_tc_1_4 _ | exact c_tc_0_4 _ | exact c_tc_0_5 _ | exact c_tc_0_6 _ | exact z_01 | exact z_11 | exact nz_24 | exact nz_16 | assumption | omega) only [eB4_set, x_aload_0, x_iload_1, x_iload_2, x_iv_2, x_kx1, x_kx0, x_istore_3, x_iload_3, x_iconst, x_ic_eq, x_getf, c_gf_4_2, x_iv_0, x_ret_i, c_gf_4_3, c_gf_4_5, c_gf_4_1, c_gf_4_0, x_iv_1, x_iv_3, jB4_set_23, jB4_set_25, uB4_set_0, uB4_set_23, uB4_set_25, n_0, n_1, n_2, n_3, n_4, n_5, n_6, n_7, n_8, n_9, n_10, n_12, n_13, n_15, n_16, n_20, n_24, n_60, n_64, n_72, n_96, n_192, n_256, n_400, n_808, n_960, n_1440, n_2048, n_2720, n_16777215, n_1000000, l_0, l_1, l_8, l_20, l_60, l_lt_t, l_lt_f, l_ge_t, l_ge_f, l_eq_t, l_eq_f, lN_i, nI_l, i_lt_t, i_lt_f, i_le_t, i_le_f, i_eq_t, i_eq_f, ↓n_m1, ↓n_m2, i_m1, i_m1s, i_m1lt, i_m1le, i_m1l2, i_m1l3, i_mm, nI_add, pk_mul, i_sub, i_dec, i_dec0, i_s01, i_div, Nat.reduceAdd, Nat.reduceSub, Nat.reduceMul, Nat.zero_add, if_true, if_false, not_true, not_false_eq_true, ↓reduceIte, e1]) (by simp (disch := first | exact q_two_i _ | exact q_two_r _ | exact q_two_n | exact q_sh0 | exact q_sh1 _ | exact q_sh2 _ _ | exact q_sh3 _ _ _ | exact q_sh4 _ _ _ _ | exact c_cl_5 hq | exact c_tc_5_3 _ | exact c_tc_5_7 _ | exact c_tc_5_8 _ | exact c_tc_5_12 _ | exact c_tc_5_13 _ | exact c_tc_5_15 _ | exact c_tc_5_16 _ | exact c_tc_5_17 _ | exact c_tc_5_18 _ | exact c_tc_5_19 _ | exact c_tc_5_21 _ | exact c_tc_5_22 _ | exact c_tc_5_20a | exact c_tc_5_20b | exact z_01 | exact z_11 | exact nz_24 | exact nz_16 | assumption | omega) only [eB5_set, x_aload_0, x_iload_1, x_iload_2, x_iv_2, x_kx1, x_kx0, x_istore_3, x_iload_3, x_if_eq, x_iv_0, x_iconst, x_ic_lt, x_getf, c_gf_5_4, x_iv_1, x_iaload, x_ic_eq, x_ret_i, x_dup_int, x_dup_ref, c_gf_5_12, x_isub, x_putf, c_pf_5_12, c_gf_5_9, jB5_set_38, jB5_set_40, uB5_set_0, uB5_set_38, uB5_set_40, n_0, n_1, n_2, n_3, n_4, n_5, n_6, n_7, n_8, n_9, n_10, n_12, n_13, n_15, n_16, n_20, n_24, n_60, n_64, n_72, n_96, n_192, n_256, n_400, n_808, n_960, n_1440, n_2048, n_2720, n_16777215, n_1000000, l_0, l_1, l_8, l_20, l_60, l_lt_t, l_lt_f, l_ge_t, l_ge_f, l_eq_t, l_eq_f, lN_i, nI_l, i_lt_t, i_lt_f, i_le_t, i_le_f, i_eq_t, i_eq_f, ↓n_m1, ↓n_m2, i_m1, i_m1s, i_m1lt, i_m1le, i_m1l2, i_m1l3, i_mm, nI_add, pk_mul, i_sub, i_dec, i_dec0, i_s01, i_div, Nat.reduceAdd, Nat.reduceSub, Nat.reduceMul, Nat.zero_add, if_true, if_false, not_true, not_false_eq_true, ↓reduceIte, hq, e2]) ⟨R, fl, ST_mono hI⟩ hN hB1
  obtain ⟨⟨p1, p2, p3⟩, ⟨p4, p5, p6⟩, ⟨p7, p8, p9⟩, p10, p11⟩ := pl hI hj hp
  have e1 := h1 G0 n m (d + 593)
  have p12 := b_ad_ge (ks := ks) (zs := zs) p (R (24 + j0)) (8 * (24 + j0), false) (by dsimp only; omega)
  have pC : f_okC ks zs ce rl (.inner s (x, j) v K .leaf) (b_ad ks zs (R (24 + j0)) p (8 * (24 + j0), false)).1 false := ⟨p10.2.1.1, trivial⟩
  obtain ⟨a, hy⟩ : ∃ a, (b_ad ks zs (R (24 + j0)) p (8 * (24 + j0), false)).1 = a := ⟨_, rfl⟩
  rw [hy] at e1 p11 p12 pC
  have hs24 : s < 24 := by omega
  have hsx : so x < 24 := by omega
  have hx0 : x ≠ 0 := by omega
  have hx5 : x < 100000 := by omega
  by_cases hb1 : b0 = ih
  · subst hb1
    obtain ⟨G1, hG1⟩ : ∃ G1, CO kn ks zs ps ce bt rt rl nb nr hsh hst ssh (b0) th wt os wn oc dr tm (nI a) g = G1 := ⟨_, rfl⟩
    obtain ⟨i1, i2, i3, e2, -⟩ := h2 G1 n m (d + 597)
    exact SS_mk1 (hoq := hq) (kn' := kn) (ks' := ks) (zs' := zs) (ps' := ps) (ce' := ce) (bt' := bt) (rt' := rt) (rl' := rl) (nb' := nb) (nr' := nr) (hsh' := hsh) (hst' := hst) (ssh' := ssh) (ih' := b0) (th' := th) (wt' := wt) (os' := os) (wn' := wn) (oc' := oc) (dr' := dr) (tm' := tm) (fa' := nI a) (ko' := ko) (q1' := q1) (q2' := q2) (q3' := q3) (cp' := cp) (so' := so) (ki' := ki) (nu' := nu) (no' := no) (sp' := sp) (hn' := hn) (sl' := sl) (ah' := ah) (isl' := i1) (inn' := i2) (atk' := i3) hq17 hg hG0 hG1 (r := .int mI) (by simp (disch := first | exact q_two_i _ | exact q_two_r _ | exact q_two_n | exact q_sh0 | exact q_sh1 _ | exact q_sh2 _ _ | exact q_sh3 _ _ _ | exact q_sh4 _ _ _ _ | exact c_cl_0 .. | exact c_cl_1 .. | exact c_cl_2 .. | exact c_cl_3 .. | exact c_cl_4 .. | exact c_tc_4_4 _ | exact c_tc_4_5 _ | exact c_tc_3_3 _ | exact c_tc_2_4 _ | exact c_tc_2_5 _ | exact c_tc_1_3 _ | exact c_tc_1_4 _ | exact c_tc_0_4 _ | exact c_tc_0_5 _ | exact c_tc_0_6 _ | exact z_01 | exact z_11 | exact nz_24 | exact nz_16 | assumption | omega) only [eB4_set, x_aload_0, x_iload_1, x_iload_2, x_iv_2, x_kx1, x_kx0, x_istore_3, x_iload_3, x_iconst, x_ic_eq, x_getf, c_gf_4_2, x_iv_0, x_ret_i, c_gf_4_3, c_gf_4_5, c_gf_4_1, c_gf_4_0, x_iv_1, x_iv_3, jB4_set_23, jB4_set_25, uB4_set_0, uB4_set_23, uB4_set_25, n_0, n_1, n_2, n_3, n_4, n_5, n_6, n_7, n_8, n_9, n_10, n_12, n_13, n_15, n_16, n_20, n_24, n_60, n_64, n_72, n_96, n_192, n_256, n_400, n_808, n_960, n_1440, n_2048, n_2720, n_16777215, n_1000000, l_0, l_1, l_8, l_20, l_60, l_lt_t, l_lt_f, l_ge_t, l_ge_f, l_eq_t, l_eq_f, lN_i, nI_l, i_lt_t, i_lt_f, i_le_t, i_le_f, i_eq_t, i_eq_f, ↓n_m1, ↓n_m2, i_m1, i_m1s, i_m1lt, i_m1le, i_m1l2, i_m1l3, i_mm, nI_add, pk_mul, i_sub, i_dec, i_dec0, i_s01, i_div, Nat.reduceAdd, Nat.reduceSub, Nat.reduceMul, Nat.zero_add, if_true, if_false, not_true, not_false_eq_true, ↓reduceIte, e1, c_top0]) (by simp (disch := first | exact q_two_i _ | exact q_two_r _ | exact q_two_n | exact q_sh0 | exact q_sh1 _ | exact q_sh2 _ _ | exact q_sh3 _ _ _ | exact q_sh4 _ _ _ _ | exact c_cl_5 hq | exact c_tc_5_3 _ | exact c_tc_5_7 _ | exact c_tc_5_8 _ | exact c_tc_5_12 _ | exact c_tc_5_13 _ | exact c_tc_5_15 _ | exact c_tc_5_16 _ | exact c_tc_5_17 _ | exact c_tc_5_18 _ | exact c_tc_5_19 _ | exact c_tc_5_21 _ | exact c_tc_5_22 _ | exact c_tc_5_20a | exact c_tc_5_20b | exact z_01 | exact z_11 | exact nz_24 | exact nz_16 | assumption | omega) only [eB5_set, x_aload_0, x_iload_1, x_iload_2, x_iv_2, x_kx1, x_kx0, x_istore_3, x_iload_3, x_if_eq, x_iv_0, x_iconst, x_ic_lt, x_getf, c_gf_5_4, x_iv_1, x_iaload, x_ic_eq, x_ret_i, x_dup_int, x_dup_ref, c_gf_5_12, x_isub, x_putf, c_pf_5_12, c_gf_5_9, jB5_set_38, jB5_set_40, uB5_set_0, uB5_set_38, uB5_set_40, n_0, n_1, n_2, n_3, n_4, n_5, n_6, n_7, n_8, n_9, n_10, n_12, n_13, n_15, n_16, n_20, n_24, n_60, n_64, n_72, n_96, n_192, n_256, n_400, n_808, n_960, n_1440, n_2048, n_2720, n_16777215, n_1000000, l_0, l_1, l_8, l_20, l_60, l_lt_t, l_lt_f, l_ge_t, l_ge_f, l_eq_t, l_eq_f, lN_i, nI_l, i_lt_t, i_lt_f, i_le_t, i_le_f, i_eq_t, i_eq_f, ↓n_m1, ↓n_m2, i_m1, i_m1s, i_m1lt, i_m1le, i_m1l2, i_m1l3, i_mm, nI_add, pk_mul, i_sub, i_dec, i_dec0, i_s01, i_div, Nat.reduceAdd, Nat.reduceSub, Nat.reduceMul, Nat.zero_add, if_true, if_false, not_true, not_false_eq_true, ↓reduceIte, hq, e2, m_mine, ha0, Nat.sub_self]) ⟨R, fl, ST_mono hI⟩ hN hB1
  have hb5 : b0 < ih := by omega
  have hge : 1 ≤ ih := by omega
  obtain ⟨s1, x1, j1, v1, K1, a1, ⟨a2, a3⟩, ⟨a4, a5, a6⟩, a7, a8, a9, a10⟩ := h_top hI (r := ih - 1) (by omega)
  have s24 : s1 < 24 := by omega
  have e7 : hn (ih - 1 - 0) = x1 := by rw [Nat.sub_zero, a3]
  have a72 := a7.2.2
  by_cases hm : s = s1
  rotate_left
  · obtain ⟨G1, hG1⟩ : ∃ G1, CO kn ks zs ps ce bt rt rl nb nr hsh hst ssh ih th wt os wn oc dr tm (nI a) g = G1 := ⟨_, rfl⟩
    obtain ⟨i1, i2, i3, e2, -⟩ := h2 G1 n m (d + 597)
    have hm2 : ¬ s1 = s := fun e => hm e.symm
    exact SS_mk1 (hoq := hq) (kn' := kn) (ks' := ks) (zs' := zs) (ps' := ps) (ce' := ce) (bt' := bt) (rt' := rt) (rl' := rl) (nb' := nb) (nr' := nr) (hsh' := hsh) (hst' := hst) (ssh' := ssh) (ih' := ih) (th' := th) (wt' := wt) (os' := os) (wn' := wn) (oc' := oc) (dr' := dr) (tm' := tm) (fa' := nI a) (ko' := ko) (q1' := q1) (q2' := q2) (q3' := q3) (cp' := cp) (so' := so) (ki' := ki) (nu' := nu) (no' := no) (sp' := sp) (hn' := hn) (sl' := sl) (ah' := ah) (isl' := i1) (inn' := i2) (atk' := i3) hq17 hg hG0 hG1 (r := .int mI) (by simp (disch := first | exact q_two_i _ | exact q_two_r _ | exact q_two_n | exact q_sh0 | exact q_sh1 _ | exact q_sh2 _ _ | exact q_sh3 _ _ _ | exact q_sh4 _ _ _ _ | exact c_cl_0 .. | exact c_cl_1 .. | exact c_cl_2 .. | exact c_cl_3 .. | exact c_cl_4 .. | exact c_tc_4_4 _ | exact c_tc_4_5 _ | exact c_tc_3_3 _ | exact c_tc_2_4 _ | exact c_tc_2_5 _ | exact c_tc_1_3 _ | exact c_tc_1_4 _ | exact c_tc_0_4 _ | exact c_tc_0_5 _ | exact c_tc_0_6 _ | exact z_01 | exact z_11 | exact nz_24 | exact nz_16 | assumption | omega) only [eB4_set, x_aload_0, x_iload_1, x_iload_2, x_iv_2, x_kx1, x_kx0, x_istore_3, x_iload_3, x_iconst, x_ic_eq, x_getf, c_gf_4_2, x_iv_0, x_ret_i, c_gf_4_3, c_gf_4_5, c_gf_4_1, c_gf_4_0, x_iv_1, x_iv_3, jB4_set_23, jB4_set_25, uB4_set_0, uB4_set_23, uB4_set_25, n_0, n_1, n_2, n_3, n_4, n_5, n_6, n_7, n_8, n_9, n_10, n_12, n_13, n_15, n_16, n_20, n_24, n_60, n_64, n_72, n_96, n_192, n_256, n_400, n_808, n_960, n_1440, n_2048, n_2720, n_16777215, n_1000000, l_0, l_1, l_8, l_20, l_60, l_lt_t, l_lt_f, l_ge_t, l_ge_f, l_eq_t, l_eq_f, lN_i, nI_l, i_lt_t, i_lt_f, i_le_t, i_le_f, i_eq_t, i_eq_f, ↓n_m1, ↓n_m2, i_m1, i_m1s, i_m1lt, i_m1le, i_m1l2, i_m1l3, i_mm, nI_add, pk_mul, i_sub, i_dec, i_dec0, i_s01, i_div, Nat.reduceAdd, Nat.reduceSub, Nat.reduceMul, Nat.zero_add, if_true, if_false, not_true, not_false_eq_true, ↓reduceIte, e1, c_top, a2]) (by simp (disch := first | exact q_two_i _ | exact q_two_r _ | exact q_two_n | exact q_sh0 | exact q_sh1 _ | exact q_sh2 _ _ | exact q_sh3 _ _ _ | exact q_sh4 _ _ _ _ | exact c_cl_5 hq | exact c_tc_5_3 _ | exact c_tc_5_7 _ | exact c_tc_5_8 _ | exact c_tc_5_12 _ | exact c_tc_5_13 _ | exact c_tc_5_15 _ | exact c_tc_5_16 _ | exact c_tc_5_17 _ | exact c_tc_5_18 _ | exact c_tc_5_19 _ | exact c_tc_5_21 _ | exact c_tc_5_22 _ | exact c_tc_5_20a | exact c_tc_5_20b | exact z_01 | exact z_11 | exact nz_24 | exact nz_16 | assumption | omega) only [eB5_set, x_aload_0, x_iload_1, x_iload_2, x_iv_2, x_kx1, x_kx0, x_istore_3, x_iload_3, x_if_eq, x_iv_0, x_iconst, x_ic_lt, x_getf, c_gf_5_4, x_iv_1, x_iaload, x_ic_eq, x_ret_i, x_dup_int, x_dup_ref, c_gf_5_12, x_isub, x_putf, c_pf_5_12, c_gf_5_9, jB5_set_38, jB5_set_40, uB5_set_0, uB5_set_38, uB5_set_40, n_0, n_1, n_2, n_3, n_4, n_5, n_6, n_7, n_8, n_9, n_10, n_12, n_13, n_15, n_16, n_20, n_24, n_60, n_64, n_72, n_96, n_192, n_256, n_400, n_808, n_960, n_1440, n_2048, n_2720, n_16777215, n_1000000, l_0, l_1, l_8, l_20, l_60, l_lt_t, l_lt_f, l_ge_t, l_ge_f, l_eq_t, l_eq_f, lN_i, nI_l, i_lt_t, i_lt_f, i_le_t, i_le_f, i_eq_t, i_eq_f, ↓n_m1, ↓n_m2, i_m1, i_m1s, i_m1lt, i_m1le, i_m1l2, i_m1l3, i_mm, nI_add, pk_mul, i_sub, i_dec, i_dec0, i_s01, i_div, Nat.reduceAdd, Nat.reduceSub, Nat.reduceMul, Nat.zero_add, if_true, if_false, not_true, not_false_eq_true, ↓reduceIte, hq, e2, m_mine, ha0, m_top, e7, c_g_q1, a4, p4]) ⟨R, fl, ST_mono hI⟩ hN hB1
  subst hm
  have hz8 := (hS.2 s a8).2.2.1
  have hb : ih - 1 < 120 := by omega
  have hr : 24 + j0 < 120 := by omega
  have hrb : 24 + j0 ≠ ih - 1 := by omega
  have had : (ih - 1) * 8 + zs s ≤ a := by omega
  obtain ⟨T, hTd⟩ : ∃ T, T = (Std.DTreeMap.Internal.Impl.inner s (x, j) v K .leaf : Fo) := ⟨_, rfl⟩
  have hAT : ∀ {f : Fo → Nat} {φ : Nat → Nat × Nat → Nat}, fA f φ → f T ≤ rF f R := fun {f φ} h => by
    have e1 := fb_Ale h p _ hp
    have e2 := rF_ge f R hr
    rw [hTd, h.2, h.1]
    omega
  have hAS : ∀ {f : Fo → Nat} {φ : Nat → Nat × Nat → Nat}, fA f φ → rF f (upN (upN R (ih - 1) .leaf) (24 + j0) (b_set (x1, j1) v1 K1 (R (24 + j0)) p)) + f T = rF f R := fun h => by rw [hTd]; exact rF_st h hr hb hrb hp a1
  have hTok : f_okT kn ks ps T := by rw [hTd]; exact ⟨p1, p2, p3, trivial⟩
  have hszT := hAT fA_sz
  have t4 := fun z => hAT (fA_cb ks 4 z)
  have t5 := fun z => hAT (fA_cb ks 5 z)
  have t6 := hAT (fA_nk ks 4)
  have t7 := hAT (fA_nk ks 5)
  have tx := fun z => hAT (fA_cx z)
  have g4 := hC.2.1
  have g5 := hC.2.2.1
  have g6 := hC.2.2.2.1
  have g7 := hC.2.2.2.2
  have gx := hR.2.1
  have hRT : f_okR so ki nu T := by
    have := fb_Rat p _ (hR.1 _ hr)
    rw [hp] at this
    rw [hTd]
    exact ⟨this.1, this.2.1, trivial⟩
  obtain ⟨wt', e3⟩ := c_drop (kn := kn) (ks := ks) (zs := zs) (ps := ps) (ce := ce) (bt := bt) (rt := rt) (rl := rl) (nb := nb) (nr := nr) (hsh := hsh) (hst := hst) (ssh := ssh) (ih := ih) (th := th) (wt := wt) (os := os) (wn := wn) (oc := oc) (dr := dr) (tm := tm) (fa := nI a) (g := G0) (n := n) (m := m) (d := d + 593) (s := s) (a := a) (k := (x, j)) (v := v) (K := K) hS hk (by rw [← hTd]; exact hTok) (by exact pC) p11 (by rw [← hTd]; omega) (fun z => by rw [← hTd]; have := t4 z; have := g4 z; omega) (fun z => by rw [← hTd]; have := t5 z; have := g5 z; omega) (by rw [← hTd]; omega) hBd.2.1 (by rw [← hTd]; omega) hBd.2.2 hO
  rw [← hTd] at e3
  obtain ⟨bt', hbt'⟩ : ∃ bt', (fun z => bt z - f_cb ks 4 z T) = bt' := ⟨_, rfl⟩
  obtain ⟨rt', hrt'⟩ : ∃ rt', (fun z => rt z - f_cb ks 5 z T) = rt' := ⟨_, rfl⟩
  obtain ⟨os', hos'⟩ : ∃ o, (outp os oc (f_tl ks T)).1 = o := ⟨_, rfl⟩
  obtain ⟨oc', hoc'⟩ : ∃ o, (outp os oc (f_tl ks T)).2 = o := ⟨_, rfl⟩
  rw [hbt', hrt', hos', hoc'] at e3
  obtain ⟨G1, hG1⟩ : ∃ G1, CO kn ks zs ps (va_cpy ce ce ((ih - 1) * 8) a (zs s)) (bt') (rt') rl (nb - f_nk ks 4 T) (nr - f_nk ks 5 T) hsh hst ssh (ih - 1) th (wt') (os') (0) (oc') (dr + f_nk ks 2 T) tm (nI a) g = G1 := ⟨_, rfl⟩
  obtain ⟨i1, i2, i3, e2, hh⟩ := h2 G1 n m (d + 597)
  have hhK := f_h_sz K
  have hszT2 : f_sz T = 1 + f_sz K + 0 := by rw [hTd]; rfl
  obtain ⟨ki', sp', fl', e4, e5, e6, e8⟩ := m_drop (sh := kn) (kd := ks) (kz := zs) (ko := ko) (q1 := q1) (q2 := q2) (q3 := q3) (cp := cp) (so := so) (ki := ki) (nu := nu) (no := no) (sp := sp) (hn := hn) (sl := sl) (ah := ah) (he := ih) (fr := th) (ou := os) (tol := oc) (bx := nb) (rws := nr) (ma := tm) (dpd := dr) (isl := i1) (inn := i2) (atk := i3) (g := G1) (n := n) (m := m) (d := d + 597 - f_h K) (s := s) (k := (x, j)) (v := v) (K := K) fl hq hcp1 ⟨by omega, by omega, by omega⟩ hk (fun s hs => by have := (hS.2 s hs).1; omega) (by rw [← hTd]; exact f_okT_ko hK hTok) (by rw [← hTd]; exact hRT) (fun z hz => by rw [← hTd] at hz; have := hR.2.2.1 z (by have := tx z; omega); omega) (fun z => by rw [← hTd]; have := tx z; have := gx z; omega) hR.2.2.2 (by rw [← hTd]; omega) (by rw [← hTd]; omega) hO
  rw [← hTd] at e4 e6 e8
  rw [show d + 597 - f_h K + f_h K + 2 = d + 599 by omega, hos', hoc'] at e4
  dsimp only at e4
  obtain ⟨ki2, sl2, hpt, hk2, hsl⟩ := hang_put hI (x1 := x1) (j1 := j1) (v1 := v1) (K1 := K1) hj hp hh ki'
  have hNl : p = [] → N = .leaf := fun e => by
    subst e
    have h5 := (hT _ hr).1
    have h6 : R (24 + j0) = .inner s (x, j) v K N := by simpa only [b_at] using hp
    rw [h6] at h5
    simp only [f_len] at h5
    exact f_len0 (by omega)
  obtain ⟨r1, r2⟩ := IR_set hR hr hb hrb hp a1 hNl (ki1 := ki') (fun z hz => by rw [← hTd] at hz; exact e8 z hz) hk2
  have hii : ∀ c, ¬ (a ≤ c ∧ c < a + zs s) → ¬ (8 * (ih - 1) ≤ c ∧ c < 8 * (ih - 1) + 8) → va_cpy ce ce ((ih - 1) * 8) a (zs s) c = ce c := fun c g1 g2 => by
    rw [mvc, if_neg g1]
  obtain ⟨q1c, q2c⟩ := C_set (ce2 := va_cpy ce ce ((ih - 1) * 8) a (zs s)) hS hk hT hC hr hb hrb hp a1 hy (fun i hi => by
    rw [mvc, if_pos (by omega)]; congr 1; omega) hii
  have hIT : IT kn ks ps (upN (upN R (ih - 1) .leaf) (24 + j0) (b_set (x1, j1) v1 K1 (R (24 + j0)) p)) := IT_up (IT_lf hT _) (by rw [fb_len]; exact (hT _ hr).1) (fb_T a9 a10 p _ hp (hT _ hr).2)
  have hSsz := hAS fA_sz
  have hcx : ∀ z, rF (f_cx z) (upN (upN R (ih - 1) .leaf) (24 + j0) (b_set (x1, j1) v1 K1 (R (24 + j0)) p)) + fl'.count z = rF (f_cx z) R + fl.count z := fun z => by
    have := hAS (fA_cx z)
    have := e6 z
    omega
  have hST : ST (c + 1) kn ks zs ps (va_cpy ce ce ((ih - 1) * 8) a (zs s)) (bt') (rt') rl (nb - f_nk ks 4 T) (nr - f_nk ks 5 T) hsh hst ssh (ih - 1) th (oc') ko q1 q2 q3 cp so (ki2) nu no (sp') hn (sl2) ah (upN (upN R (ih - 1) .leaf) (24 + j0) (b_set (x1, j1) v1 K1 (R (24 + j0)) p)) fl' := by
    refine ⟨⟨hS, hk⟩, hK, ⟨⟨f1, f2⟩, by omega, f4, f5, by omega, f7⟩, hIT, ⟨fun r hr' => ?_, fun r h h' => ?_, fun r hr' => ?_, fun i hi => ?_⟩, ⟨fun r hr' => ?_, fun z => ?_, fun z => ?_, ?_, ?_⟩, ⟨fun r hr' => ?_, fun z => by rw [hcx]; exact gx z, fun z hz => hR.2.2.1 z (by rw [← hcx]; exact hz), ?_⟩, by rw [← hoc']; exact outp_le _ _ _ hO, ⟨by omega, by omega, by omega⟩, ⟨hq, hq17⟩, hcp.1, hcp.2.1, hcp.2.2.1, by omega⟩
    · rw [upN_n _ _ (by omega)]
      by_cases e : r = ih - 1
      · subst e; rw [upN_s]; simp only [f_len]; omega
      · rw [upN_n _ _ e, hL.1 r hr']; omega
    · have hlf := hL.2.1 r h h'
      by_cases e : r = 24 + j0
      · subst e
        exfalso
        rw [hlf] at hp
        cases p <;> simp [b_at] at hp
      · rw [upN_n _ _ e, upN_n _ _ (by omega)]; exact hlf
    · rw [upN_n _ _ (by omega), upN_n _ _ (by omega)]; exact hL.2.2.1 r (by omega)
    · rw [hsl i hi]
      by_cases e : i = j0
      · subst e; rw [upN_s, s_slot_b, if_pos rfl]; exact ⟨(hL.2.2.2 i hi).1, rfl⟩
      · rw [upN_n _ _ (by omega), upN_n _ _ (by omega), if_neg e]; exact hL.2.2.2 i hi
    · by_cases e : r = 24 + j0
      · subst e; rw [upN_s]; exact q1c
      · rw [upN_n _ _ e]
        by_cases e2 : r = ih - 1
        · subst e2; rw [upN_s]; trivial
        · rw [upN_n _ _ e2]; exact q2c r hr' e2 e
    · have e1 := hAS (fA_cb ks 4 z)
      have e2 := g4 z
      rw [← hbt']
      dsimp only
      omega
    · have e1 := hAS (fA_cb ks 5 z)
      have e2 := g5 z
      rw [← hrt']
      dsimp only
      omega
    · have e1 := hAS (fA_nk ks 4)
      omega
    · have e1 := hAS (fA_nk ks 5)
      omega
    · by_cases e : r = 24 + j0
      · subst e; rw [upN_s]; exact r1
      · rw [upN_n _ _ e]
        by_cases e2 : r = ih - 1
        · subst e2; rw [upN_s]; trivial
        · rw [upN_n _ _ e2]; exact r2 r hr' e
    · refine fr_keep e5 (fun z hz => ?_)
      rcases hk2 with ⟨rfl, rfl⟩ | ⟨pp, i, s2, x2, j2, v2, K2, N2, rfl, hp2, hi8, rfl⟩
      · rfl
      · refine upN_n _ _ (fun e => ?_)
        have : z = x2 := by omega
        subst this
        have hle2 := fb_Ale (fA_cx z) pp _ hp2
        simp only [if_true] at hle2
        have hpk : b_at K2 (List.replicate i false) = .inner s (x, j) v K N := by
          rw [b_at_app, hp2] at hp; exact hp
        have hle3 := fb_Ale (fA_cx z) (List.replicate i false) K2 hpk
        have hge2 := rF_ge (f_cx z) R hr
        have hu2 := gx z
        have h9 := List.count_pos_iff.mpr hz
        have h10 := e6 z
        have h11 : f_cx z T = (if x = z then 1 else 0) + f_cx z K + 0 := by rw [hTd]; rfl
        dsimp only at hle3
        omega
  have h3q : q2 ≠ 0 := by omega
  have a3' : hn (ih - 1) = x1 := a3
  rcases hpt with ⟨g1, g2, h8, h9⟩ | ⟨g1, g2, g3, h8, h9⟩
  · rw [h8, h9] at hST
    exact SS_mk1 (hoq := hq) (kn' := kn) (ks' := ks) (zs' := zs) (ps' := ps) (ce' := va_cpy ce ce ((ih - 1) * 8) a (zs s)) (bt' := bt') (rt' := rt') (rl' := rl) (nb' := nb - f_nk ks 4 T) (nr' := nr - f_nk ks 5 T) (hsh' := hsh) (hst' := hst) (ssh' := ssh) (ih' := ih - 1) (th' := th) (wt' := wt') (os' := os') (wn' := 0) (oc' := oc') (dr' := dr + f_nk ks 2 T) (tm' := tm) (fa' := nI a) (ko' := ko) (q1' := q1) (q2' := q2) (q3' := q3) (cp' := cp) (so' := so) (ki' := ki') (nu' := nu) (no' := no) (sp' := sp') (hn' := hn) (sl' := upN sl i2 x1) (ah' := ah) (isl' := i1) (inn' := i2) (atk' := i3) hq17 hg hG0 hG1 (r := .int (nI 1)) (by simp (disch := first | exact q_two_i _ | exact q_two_r _ | exact q_two_n | exact q_sh0 | exact q_sh1 _ | exact q_sh2 _ _ | exact q_sh3 _ _ _ | exact q_sh4 _ _ _ _ | exact c_cl_0 .. | exact c_cl_1 .. | exact c_cl_2 .. | exact c_cl_3 .. | exact c_cl_4 .. | exact c_tc_4_4 _ | exact c_tc_4_5 _ | exact c_tc_3_3 _ | exact c_tc_2_4 _ | exact c_tc_2_5 _ | exact c_tc_1_3 _ | exact c_tc_1_4 _ | exact c_tc_0_4 _ | exact c_tc_0_5 _ | exact c_tc_0_6 _ | exact z_01 | exact z_11 | exact nz_24 | exact nz_16 | assumption | omega) only [eB4_set, x_aload_0, x_iload_1, x_iload_2, x_iv_2, x_kx1, x_kx0, x_istore_3, x_iload_3, x_iconst, x_ic_eq, x_getf, c_gf_4_2, x_iv_0, x_ret_i, c_gf_4_3, c_gf_4_5, c_gf_4_1, c_gf_4_0, x_iv_1, x_iv_3, jB4_set_23, jB4_set_25, uB4_set_0, uB4_set_23, uB4_set_25, n_0, n_1, n_2, n_3, n_4, n_5, n_6, n_7, n_8, n_9, n_10, n_12, n_13, n_15, n_16, n_20, n_24, n_60, n_64, n_72, n_96, n_192, n_256, n_400, n_808, n_960, n_1440, n_2048, n_2720, n_16777215, n_1000000, l_0, l_1, l_8, l_20, l_60, l_lt_t, l_lt_f, l_ge_t, l_ge_f, l_eq_t, l_eq_f, lN_i, nI_l, i_lt_t, i_lt_f, i_le_t, i_le_f, i_eq_t, i_eq_f, ↓n_m1, ↓n_m2, i_m1, i_m1s, i_m1lt, i_m1le, i_m1l2, i_m1l3, i_mm, nI_add, pk_mul, i_sub, i_dec, i_dec0, i_s01, i_div, Nat.reduceAdd, Nat.reduceSub, Nat.reduceMul, Nat.zero_add, if_true, if_false, not_true, not_false_eq_true, ↓reduceIte, e1, c_top, a2, e3, c_tAt, c_size, c_move, c_off]) (by simp (disch := first | exact q_two_i _ | exact q_two_r _ | exact q_two_n | exact q_sh0 | exact q_sh1 _ | exact q_sh2 _ _ | exact q_sh3 _ _ _ | exact q_sh4 _ _ _ _ | exact c_cl_5 hq | exact c_tc_5_3 _ | exact c_tc_5_7 _ | exact c_tc_5_8 _ | exact c_tc_5_12 _ | exact c_tc_5_13 _ | exact c_tc_5_15 _ | exact c_tc_5_16 _ | exact c_tc_5_17 _ | exact c_tc_5_18 _ | exact c_tc_5_19 _ | exact c_tc_5_21 _ | exact c_tc_5_22 _ | exact c_tc_5_20a | exact c_tc_5_20b | exact z_01 | exact z_11 | exact nz_24 | exact nz_16 | assumption | omega) only [eB5_set, x_aload_0, x_iload_1, x_iload_2, x_iv_2, x_kx1, x_kx0, x_istore_3, x_iload_3, x_if_eq, x_iv_0, x_iconst, x_ic_lt, x_getf, c_gf_5_4, x_iv_1, x_iaload, x_ic_eq, x_ret_i, x_dup_int, x_dup_ref, c_gf_5_12, x_isub, x_putf, c_pf_5_12, c_gf_5_9, jB5_set_38, jB5_set_40, uB5_set_0, uB5_set_38, uB5_set_40, n_0, n_1, n_2, n_3, n_4, n_5, n_6, n_7, n_8, n_9, n_10, n_12, n_13, n_15, n_16, n_20, n_24, n_60, n_64, n_72, n_96, n_192, n_256, n_400, n_808, n_960, n_1440, n_2048, n_2720, n_16777215, n_1000000, l_0, l_1, l_8, l_20, l_60, l_lt_t, l_lt_f, l_ge_t, l_ge_f, l_eq_t, l_eq_f, lN_i, nI_l, i_lt_t, i_lt_f, i_le_t, i_le_f, i_eq_t, i_eq_f, ↓n_m1, ↓n_m2, i_m1, i_m1s, i_m1lt, i_m1le, i_m1l2, i_m1l3, i_mm, nI_add, pk_mul, i_sub, i_dec, i_dec0, i_s01, i_div, Nat.reduceAdd, Nat.reduceSub, Nat.reduceMul, Nat.zero_add, if_true, if_false, not_true, not_false_eq_true, ↓reduceIte, hq, e2, m_mine, ha0, m_top, e7, c_g_q1, a4, p4, e4, c_g_25, a3', m_putS]) ⟨_, fl', hST⟩ hN hB1
  · rw [h8, h9] at hST
    exact SS_mk1 (hoq := hq) (kn' := kn) (ks' := ks) (zs' := zs) (ps' := ps) (ce' := va_cpy ce ce ((ih - 1) * 8) a (zs s)) (bt' := bt') (rt' := rt') (rl' := rl) (nb' := nb - f_nk ks 4 T) (nr' := nr - f_nk ks 5 T) (hsh' := hsh) (hst' := hst) (ssh' := ssh) (ih' := ih - 1) (th' := th) (wt' := wt') (os' := os') (wn' := 0) (oc' := oc') (dr' := dr + f_nk ks 2 T) (tm' := tm) (fa' := nI a) (ko' := ko) (q1' := q1) (q2' := q2) (q3' := q3) (cp' := cp) (so' := so) (ki' := upN ki' (8 * i2 + i3) x1) (nu' := nu) (no' := no) (sp' := sp') (hn' := hn) (sl' := sl) (ah' := ah) (isl' := i1) (inn' := i2) (atk' := i3) hq17 hg hG0 hG1 (r := .int (nI 1)) (by simp (disch := first | exact q_two_i _ | exact q_two_r _ | exact q_two_n | exact q_sh0 | exact q_sh1 _ | exact q_sh2 _ _ | exact q_sh3 _ _ _ | exact q_sh4 _ _ _ _ | exact c_cl_0 .. | exact c_cl_1 .. | exact c_cl_2 .. | exact c_cl_3 .. | exact c_cl_4 .. | exact c_tc_4_4 _ | exact c_tc_4_5 _ | exact c_tc_3_3 _ | exact c_tc_2_4 _ | exact c_tc_2_5 _ | exact c_tc_1_3 _ | exact c_tc_1_4 _ | exact c_tc_0_4 _ | exact c_tc_0_5 _ | exact c_tc_0_6 _ | exact z_01 | exact z_11 | exact nz_24 | exact nz_16 | assumption | omega) only [eB4_set, x_aload_0, x_iload_1, x_iload_2, x_iv_2, x_kx1, x_kx0, x_istore_3, x_iload_3, x_iconst, x_ic_eq, x_getf, c_gf_4_2, x_iv_0, x_ret_i, c_gf_4_3, c_gf_4_5, c_gf_4_1, c_gf_4_0, x_iv_1, x_iv_3, jB4_set_23, jB4_set_25, uB4_set_0, uB4_set_23, uB4_set_25, n_0, n_1, n_2, n_3, n_4, n_5, n_6, n_7, n_8, n_9, n_10, n_12, n_13, n_15, n_16, n_20, n_24, n_60, n_64, n_72, n_96, n_192, n_256, n_400, n_808, n_960, n_1440, n_2048, n_2720, n_16777215, n_1000000, l_0, l_1, l_8, l_20, l_60, l_lt_t, l_lt_f, l_ge_t, l_ge_f, l_eq_t, l_eq_f, lN_i, nI_l, i_lt_t, i_lt_f, i_le_t, i_le_f, i_eq_t, i_eq_f, ↓n_m1, ↓n_m2, i_m1, i_m1s, i_m1lt, i_m1le, i_m1l2, i_m1l3, i_mm, nI_add, pk_mul, i_sub, i_dec, i_dec0, i_s01, i_div, Nat.reduceAdd, Nat.reduceSub, Nat.reduceMul, Nat.zero_add, if_true, if_false, not_true, not_false_eq_true, ↓reduceIte, e1, c_top, a2, e3, c_tAt, c_size, c_move, c_off]) (by simp (disch := first | exact q_two_i _ | exact q_two_r _ | exact q_two_n | exact q_sh0 | exact q_sh1 _ | exact q_sh2 _ _ | exact q_sh3 _ _ _ | exact q_sh4 _ _ _ _ | exact c_cl_5 hq | exact c_tc_5_3 _ | exact c_tc_5_7 _ | exact c_tc_5_8 _ | exact c_tc_5_12 _ | exact c_tc_5_13 _ | exact c_tc_5_15 _ | exact c_tc_5_16 _ | exact c_tc_5_17 _ | exact c_tc_5_18 _ | exact c_tc_5_19 _ | exact c_tc_5_21 _ | exact c_tc_5_22 _ | exact c_tc_5_20a | exact c_tc_5_20b | exact z_01 | exact z_11 | exact nz_24 | exact nz_16 | assumption | omega) only [eB5_set, x_aload_0, x_iload_1, x_iload_2, x_iv_2, x_kx1, x_kx0, x_istore_3, x_iload_3, x_if_eq, x_iv_0, x_iconst, x_ic_lt, x_getf, c_gf_5_4, x_iv_1, x_iaload, x_ic_eq, x_ret_i, x_dup_int, x_dup_ref, c_gf_5_12, x_isub, x_putf, c_pf_5_12, c_gf_5_9, jB5_set_38, jB5_set_40, uB5_set_0, uB5_set_38, uB5_set_40, n_0, n_1, n_2, n_3, n_4, n_5, n_6, n_7, n_8, n_9, n_10, n_12, n_13, n_15, n_16, n_20, n_24, n_60, n_64, n_72, n_96, n_192, n_256, n_400, n_808, n_960, n_1440, n_2048, n_2720, n_16777215, n_1000000, l_0, l_1, l_8, l_20, l_60, l_lt_t, l_lt_f, l_ge_t, l_ge_f, l_eq_t, l_eq_f, lN_i, nI_l, i_lt_t, i_lt_f, i_le_t, i_le_f, i_eq_t, i_eq_f, ↓n_m1, ↓n_m2, i_m1, i_m1s, i_m1lt, i_m1le, i_m1l2, i_m1l3, i_mm, nI_add, pk_mul, i_sub, i_dec, i_dec0, i_s01, i_div, Nat.reduceAdd, Nat.reduceSub, Nat.reduceMul, Nat.zero_add, if_true, if_false, not_true, not_false_eq_true, ↓reduceIte, hq, e2, m_mine, ha0, m_top, e7, c_g_q1, a4, p4, e4, c_g_25, a3', m_putK]) ⟨_, fl', hST⟩ hN hB1
