/-! The end of a frame, reference. -/
theorem RI_x {kn : Nat} {ks : Nat → Nat} {ps : Nat → Int32} {so ki : Nat → Nat} {nu : Nat → Int64} {no sp nb nr oc : Nat} {R : Nat → Fo} {fl : List Nat} (h : RI kn ks ps so ki nu no sp nb nr oc R fl) {r : Nat} (hr : r < 120) (hl : f_len (R r) = 1) : 1 ≤ f_rt (R r) 0 ∧ f_rt (R r) 0 < no := by
  have h1 := f_rt_cx (R r) 0 (by omega)
  have h2 := rF_ge (f_cx (f_rt (R r) 0)) R hr
  exact h.2.1.2.2.1 _ (by omega)
theorem m_emS {sh : Nat} {kd kz : Nat → Nat} {ko : Nat → Int32} {q1 q2 q3 cp : Nat} {so : Nat → Nat} {nu : Nat → Int64} {no : Nat} {hn ah : Nat → Nat} {he fr ma isl inn atk : Nat} {ps : Nat → Int32} {g : Nat → Option am_E} {n m d f : Nat} (hq : OKq q1 q2 q3) (h17 : 17 < q1 ∧ 17 < q2 ∧ 17 < q3) (hc : cp < 100000) (hS : s_ok sh kd kz ps) (hk : sh ≤ 24) (hK : ∀ i, i < 3 * sh → ko i = ps i) (hno : no ≤ cp) (hf : f < 12) (hfr : fr = f + 1) : ∀ (t : Nat) (ki : Nat → Nat) (sp : Nat) (sl : Nat → Nat) (bx rws : Nat) (R : Nat → Fo) (fl : List Nat) (q : Ot), t ≤ 8 → RI sh kd ps so ki nu no sp bx rws q.2.1 R fl → (∀ p, p < t → sl (f * 8 + p) = f_rt (R (24 + f * 8 + p)) 0) →
    ∃ ki' sp' bx' rws' fl', am_X (ev (d + 516)) B5_empty_0 (B5_empty_36, [some (.ref 18), some (.int (iM t))], [], (n, m, RO sh kd kz ko q1 q2 q3 cp so ki nu no sp hn sl ah he fr (q.1) (q.2.1) bx rws ma (q.2.2) isl inn atk g)) = some (none, (n, m, RO sh kd kz ko q1 q2 q3 cp so (ki') nu no (sp') hn (sshC 0 sl (f * 8) t) ah he fr ((hD kd R (24 + f * 8) t q).1) ((hD kd R (24 + f * 8) t q).2.1) (bx') (rws') ma ((hD kd R (24 + f * 8) t q).2.2) isl inn atk g)) ∧ RI sh kd ps so ki' nu no sp' bx' rws' (hD kd R (24 + f * 8) t q).2.1 (f_clr R (24 + f * 8) t) fl' := by
  intro t
  induction t with
  | zero =>
    intro ki sp sl bx rws R fl q ht hRI hl
    refine ⟨ki, sp, bx, rws, fl, ?_, by rw [f_clr_0]; exact hRI⟩
    rw [uB5_empty_36, sshC_0]
    have e0 : iM 0 = mI := rfl
    simp (disch := first | exact q_two_i _ | exact q_two_r _ | exact q_two_n | exact q_sh0 | exact q_sh1 _ | exact q_sh2 _ _ | exact q_sh3 _ _ _ | exact q_sh4 _ _ _ _ | exact c_cl_5 hq | exact c_tc_5_3 _ | exact c_tc_5_7 _ | exact c_tc_5_8 _ | exact c_tc_5_12 _ | exact c_tc_5_13 _ | exact c_tc_5_15 _ | exact c_tc_5_16 _ | exact c_tc_5_17 _ | exact c_tc_5_18 _ | exact c_tc_5_19 _ | exact c_tc_5_21 _ | exact c_tc_5_22 _ | exact c_tc_5_20a | exact c_tc_5_20b | exact z_01 | exact z_11 | exact nz_24 | exact nz_16 | assumption | omega) only [x_aload_0, x_iv_0, x_kx1, x_kx0, x_if_le, x_dup_int, x_dup_ref, x_getf, c_gf_5_12, x_iconst, x_isub, x_putf, c_pf_5_12, c_gf_5_9, x_iaload, x_iv_1, x_goto, x_bipush, x_istore_1, x_iload_1, x_if_lt, c_gf_5_10, x_if_eq, x_iastore, x_iinc_1, x_ret_v, jB5_empty_0, jB5_empty_33, jB5_empty_36, jB5_empty_67, jB5_empty_84, uB5_empty_33, uB5_empty_67, uB5_empty_84, n_0, n_1, n_2, n_3, n_4, n_5, n_6, n_7, n_8, n_9, n_10, n_12, n_13, n_15, n_16, n_20, n_24, n_60, n_64, n_72, n_96, n_192, n_256, n_400, n_808, n_960, n_1440, n_2048, n_2720, n_16777215, n_1000000, l_0, l_1, l_8, l_20, l_60, l_lt_t, l_lt_f, l_ge_t, l_ge_f, l_eq_t, l_eq_f, lN_i, nI_l, i_lt_t, i_lt_f, i_le_t, i_le_f, i_eq_t, i_eq_f, ↓n_m1, ↓n_m2, i_m1, i_m1s, i_m1lt, i_m1le, i_m1l2, i_m1l3, i_mm, nI_add, pk_mul, i_sub, i_dec, i_dec0, i_s01, i_div, Nat.reduceAdd, Nat.reduceSub, Nat.reduceMul, Nat.zero_add, if_true, if_false, not_true, not_false_eq_true, ↓reduceIte, hq, e0, hD]
  | succ t ih' =>
    intro ki sp sl bx rws R fl q ht hRI hl
    have hr : 24 + f * 8 + t < 120 := by omega
    have e0 := iM_s t
    have e4 := iM_d t
    have hj : 8 * (fr - 1) + t = f * 8 + t := by omega
    have hj96 : f * 8 + t < 96 := by omega
    have hfr0 : 0 < fr := by omega
    have hlt := hl t (by omega)
    rcases Nat.lt_or_ge (f_len (R (24 + f * 8 + t))) 1 with hl0 | hl0
    · have er : R (24 + f * 8 + t) = .leaf := f_len0 (by omega)
      rw [er] at hlt
      simp only [f_rt] at hlt
      obtain ⟨ki2, sp2, bx2, rws2, fl2, e2, hRI2⟩ := ih' ki sp (upN sl (f * 8 + t) 0) bx rws R fl q (by omega) hRI (fun p hp => by rw [upN_n _ _ (by omega)]; exact hl p (by omega))
      have e3 : hD kd R (24 + f * 8) t q = hD kd R (24 + f * 8) (t + 1) q := by
        show _ = hD kd R (24 + f * 8) t (dO kd q (R (24 + f * 8 + t)))
        rw [er, dO_lf]
      have e5 : f_clr R (24 + f * 8) t = f_clr R (24 + f * 8) (t + 1) := by rw [← f_clr_up, upN_lf er]
      rw [e3, e5] at hRI2
      rw [e3, sshC_s] at e2
      refine ⟨ki2, sp2, bx2, rws2, fl2, ?_, hRI2⟩
      rw [uB5_empty_36]
      simp (disch := first | exact q_two_i _ | exact q_two_r _ | exact q_two_n | exact q_sh0 | exact q_sh1 _ | exact q_sh2 _ _ | exact q_sh3 _ _ _ | exact q_sh4 _ _ _ _ | exact c_cl_5 hq | exact c_tc_5_3 _ | exact c_tc_5_7 _ | exact c_tc_5_8 _ | exact c_tc_5_12 _ | exact c_tc_5_13 _ | exact c_tc_5_15 _ | exact c_tc_5_16 _ | exact c_tc_5_17 _ | exact c_tc_5_18 _ | exact c_tc_5_19 _ | exact c_tc_5_21 _ | exact c_tc_5_22 _ | exact c_tc_5_20a | exact c_tc_5_20b | exact z_01 | exact z_11 | exact nz_24 | exact nz_16 | assumption | omega) only [x_aload_0, x_iv_0, x_kx1, x_kx0, x_if_le, x_dup_int, x_dup_ref, x_getf, c_gf_5_12, x_iconst, x_isub, x_putf, c_pf_5_12, c_gf_5_9, x_iaload, x_iv_1, x_goto, x_bipush, x_istore_1, x_iload_1, x_if_lt, c_gf_5_10, x_if_eq, x_iastore, x_iinc_1, x_ret_v, jB5_empty_0, jB5_empty_33, jB5_empty_36, jB5_empty_67, jB5_empty_84, uB5_empty_33, uB5_empty_67, uB5_empty_84, n_0, n_1, n_2, n_3, n_4, n_5, n_6, n_7, n_8, n_9, n_10, n_12, n_13, n_15, n_16, n_20, n_24, n_60, n_64, n_72, n_96, n_192, n_256, n_400, n_808, n_960, n_1440, n_2048, n_2720, n_16777215, n_1000000, l_0, l_1, l_8, l_20, l_60, l_lt_t, l_lt_f, l_ge_t, l_ge_f, l_eq_t, l_eq_f, lN_i, nI_l, i_lt_t, i_lt_f, i_le_t, i_le_f, i_eq_t, i_eq_f, ↓n_m1, ↓n_m2, i_m1, i_m1s, i_m1lt, i_m1le, i_m1l2, i_m1l3, i_mm, nI_add, pk_mul, i_sub, i_dec, i_dec0, i_s01, i_div, Nat.reduceAdd, Nat.reduceSub, Nat.reduceMul, Nat.zero_add, if_true, if_false, not_true, not_false_eq_true, ↓reduceIte, hq, e0, m_slot, hj, c_g_26, hlt, c_p_26, e4, e2]
    · have hl1 : f_len (R (24 + f * 8 + t)) = 1 := Nat.le_antisymm (hRI.1 _ hr).1 hl0
      have hx := RI_x hRI hr hl1
      obtain ⟨x, hxe⟩ : ∃ x, f_rt (R (24 + f * 8 + t)) 0 = x := ⟨_, rfl⟩
      obtain ⟨ki1, sp1, bx1, rws1, fl1, e1, hRI1⟩ := m_dropR (sh := sh) (kd := kd) (kz := kz) (ko := ko) (q1 := q1) (q2 := q2) (q3 := q3) (cp := cp) (so := so) (ki := ki) (nu := nu) (no := no) (sp := sp) (hn := hn) (sl := sl) (ah := ah) (he := he) (fr := fr) (bx := bx) (rws := rws) (ma := ma) (isl := isl) (inn := inn) (atk := atk) (q := q) (g := g) (n := n) (m := m) (d := d) hq h17 hc hS hk hK hno hRI hr hl1 hxe.symm
      rw [hxe] at hlt hx
      have hx0 : x ≠ 0 := by omega
      have hx5 : x < 100000 := by omega
      obtain ⟨ki2, sp2, bx2, rws2, fl2, e2, hRI2⟩ := ih' ki1 sp1 (upN sl (f * 8 + t) 0) bx1 rws1 (upN R (24 + f * 8 + t) .leaf) fl1 (dO kd q (R (24 + f * 8 + t))) (by omega) hRI1 (fun p hp => by rw [upN_n _ _ (by omega), upN_n _ _ (by omega)]; exact hl p (by omega))
      have e3 : hD kd (upN R (24 + f * 8 + t) .leaf) (24 + f * 8) t (dO kd q (R (24 + f * 8 + t))) = hD kd R (24 + f * 8) (t + 1) q := by
        rw [hD_cg (R := R) t _ (fun r h1 h2 => upN_n _ _ (by omega))]; rfl
      rw [e3, f_clr_up] at hRI2
      rw [e3, sshC_s] at e2
      refine ⟨ki2, sp2, bx2, rws2, fl2, ?_, hRI2⟩
      rw [uB5_empty_36]
      simp (disch := first | exact q_two_i _ | exact q_two_r _ | exact q_two_n | exact q_sh0 | exact q_sh1 _ | exact q_sh2 _ _ | exact q_sh3 _ _ _ | exact q_sh4 _ _ _ _ | exact c_cl_5 hq | exact c_tc_5_3 _ | exact c_tc_5_7 _ | exact c_tc_5_8 _ | exact c_tc_5_12 _ | exact c_tc_5_13 _ | exact c_tc_5_15 _ | exact c_tc_5_16 _ | exact c_tc_5_17 _ | exact c_tc_5_18 _ | exact c_tc_5_19 _ | exact c_tc_5_21 _ | exact c_tc_5_22 _ | exact c_tc_5_20a | exact c_tc_5_20b | exact z_01 | exact z_11 | exact nz_24 | exact nz_16 | assumption | omega) only [x_aload_0, x_iv_0, x_kx1, x_kx0, x_if_le, x_dup_int, x_dup_ref, x_getf, c_gf_5_12, x_iconst, x_isub, x_putf, c_pf_5_12, c_gf_5_9, x_iaload, x_iv_1, x_goto, x_bipush, x_istore_1, x_iload_1, x_if_lt, c_gf_5_10, x_if_eq, x_iastore, x_iinc_1, x_ret_v, jB5_empty_0, jB5_empty_33, jB5_empty_36, jB5_empty_67, jB5_empty_84, uB5_empty_33, uB5_empty_67, uB5_empty_84, n_0, n_1, n_2, n_3, n_4, n_5, n_6, n_7, n_8, n_9, n_10, n_12, n_13, n_15, n_16, n_20, n_24, n_60, n_64, n_72, n_96, n_192, n_256, n_400, n_808, n_960, n_1440, n_2048, n_2720, n_16777215, n_1000000, l_0, l_1, l_8, l_20, l_60, l_lt_t, l_lt_f, l_ge_t, l_ge_f, l_eq_t, l_eq_f, lN_i, nI_l, i_lt_t, i_lt_f, i_le_t, i_le_f, i_eq_t, i_eq_f, ↓n_m1, ↓n_m2, i_m1, i_m1s, i_m1lt, i_m1le, i_m1l2, i_m1l3, i_mm, nI_add, pk_mul, i_sub, i_dec, i_dec0, i_s01, i_div, Nat.reduceAdd, Nat.reduceSub, Nat.reduceMul, Nat.zero_add, if_true, if_false, not_true, not_false_eq_true, ↓reduceIte, hq, e0, m_slot, hj, c_g_26, hlt, e1, c_p_26, e4, e2]
theorem m_emH {sh : Nat} {kd kz : Nat → Nat} {ko : Nat → Int32} {q1 q2 q3 cp : Nat} {so : Nat → Nat} {nu : Nat → Int64} {no : Nat} {hn sl ah : Nat → Nat} {fr ma isl inn atk : Nat} {ps : Nat → Int32} {g : Nat → Option am_E} {n m d b : Nat} {l1 : Option Value} (hq : OKq q1 q2 q3) (h17 : 17 < q1 ∧ 17 < q2 ∧ 17 < q3) (hc : cp < 100000) (hS : s_ok sh kd kz ps) (hk : sh ≤ 24) (hK : ∀ i, i < 3 * sh → ko i = ps i) (hno : no ≤ cp) (hfr : fr < 13) (hb : ah fr = b) : ∀ (k : Nat) (ki : Nat → Nat) (sp : Nat) (bx rws : Nat) (R : Nat → Fo) (fl : List Nat) (q : Ot), b + k ≤ 24 → RI sh kd ps so ki nu no sp bx rws q.2.1 R fl → (∀ r, b ≤ r → r < b + k → f_len (R r) = 1 ∧ hn r = f_rt (R r) 0) →
    ∃ ki' sp' bx' rws' fl', am_X (ev (d + 516)) B5_empty_0 (B5_empty_0, [some (.ref 18), l1], [], (n, m, RO sh kd kz ko q1 q2 q3 cp so ki nu no sp hn sl ah (b + k) fr (q.1) (q.2.1) bx rws ma (q.2.2) isl inn atk g)) = am_X (ev (d + 516)) B5_empty_0 (B5_empty_36, [some (.ref 18), some (.int (nI 7))], [], (n, m, RO sh kd kz ko q1 q2 q3 cp so (ki') nu no (sp') hn sl ah (b) fr ((hD kd R b k q).1) ((hD kd R b k q).2.1) (bx') (rws') ma ((hD kd R b k q).2.2) isl inn atk g)) ∧ RI sh kd ps so ki' nu no sp' bx' rws' (hD kd R b k q).2.1 (f_clr R b k) fl' := by
  intro k
  induction k with
  | zero =>
    intro ki sp bx rws R fl q ht hRI hl
    refine ⟨ki, sp, bx, rws, fl, ?_, by rw [f_clr_0]; exact hRI⟩
    conv => lhs; rw [uB5_empty_0]
    have hbl : ah fr ≤ b := by omega
    have hbb : ah fr ≤ b + 0 := by omega
    simp (disch := first | exact q_two_i _ | exact q_two_r _ | exact q_two_n | exact q_sh0 | exact q_sh1 _ | exact q_sh2 _ _ | exact q_sh3 _ _ _ | exact q_sh4 _ _ _ _ | exact c_cl_5 hq | exact c_tc_5_3 _ | exact c_tc_5_7 _ | exact c_tc_5_8 _ | exact c_tc_5_12 _ | exact c_tc_5_13 _ | exact c_tc_5_15 _ | exact c_tc_5_16 _ | exact c_tc_5_17 _ | exact c_tc_5_18 _ | exact c_tc_5_19 _ | exact c_tc_5_21 _ | exact c_tc_5_22 _ | exact c_tc_5_20a | exact c_tc_5_20b | exact z_01 | exact z_11 | exact nz_24 | exact nz_16 | assumption | omega) only [x_aload_0, x_iv_0, x_kx1, x_kx0, x_if_le, x_dup_int, x_dup_ref, x_getf, c_gf_5_12, x_iconst, x_isub, x_putf, c_pf_5_12, c_gf_5_9, x_iaload, x_iv_1, x_goto, x_bipush, x_istore_1, x_iload_1, x_if_lt, c_gf_5_10, x_if_eq, x_iastore, x_iinc_1, x_ret_v, jB5_empty_0, jB5_empty_33, jB5_empty_36, jB5_empty_67, jB5_empty_84, uB5_empty_33, uB5_empty_67, uB5_empty_84, n_0, n_1, n_2, n_3, n_4, n_5, n_6, n_7, n_8, n_9, n_10, n_12, n_13, n_15, n_16, n_20, n_24, n_60, n_64, n_72, n_96, n_192, n_256, n_400, n_808, n_960, n_1440, n_2048, n_2720, n_16777215, n_1000000, l_0, l_1, l_8, l_20, l_60, l_lt_t, l_lt_f, l_ge_t, l_ge_f, l_eq_t, l_eq_f, lN_i, nI_l, i_lt_t, i_lt_f, i_le_t, i_le_f, i_eq_t, i_eq_f, ↓n_m1, ↓n_m2, i_m1, i_m1s, i_m1lt, i_m1le, i_m1l2, i_m1l3, i_mm, nI_add, pk_mul, i_sub, i_dec, i_dec0, i_s01, i_div, Nat.reduceAdd, Nat.reduceSub, Nat.reduceMul, Nat.zero_add, if_true, if_false, not_true, not_false_eq_true, ↓reduceIte, hq, m_mine, hb, Nat.add_zero, Nat.sub_self, hD]
  | succ k ih' =>
    intro ki sp bx rws R fl q ht hRI hl
    have hr : b + k < 120 := by omega
    obtain ⟨hl1, hlt⟩ := hl (b + k) (by omega) (by omega)
    have hx := RI_x hRI hr hl1
    obtain ⟨x, hxe⟩ : ∃ x, f_rt (R (b + k)) 0 = x := ⟨_, rfl⟩
    obtain ⟨ki1, sp1, bx1, rws1, fl1, e1, hRI1⟩ := m_dropR (sh := sh) (kd := kd) (kz := kz) (ko := ko) (q1 := q1) (q2 := q2) (q3 := q3) (cp := cp) (so := so) (ki := ki) (nu := nu) (no := no) (sp := sp) (hn := hn) (sl := sl) (ah := ah) (he := b + k) (fr := fr) (bx := bx) (rws := rws) (ma := ma) (isl := isl) (inn := inn) (atk := atk) (q := q) (g := g) (n := n) (m := m) (d := d) hq h17 hc hS hk hK hno hRI hr hl1 hxe.symm
    rw [hxe] at hlt hx
    obtain ⟨ki2, sp2, bx2, rws2, fl2, e2, hRI2⟩ := ih' ki1 sp1 bx1 rws1 (upN R (b + k) .leaf) fl1 (dO kd q (R (b + k))) (by omega) hRI1 (fun r h1 h2 => by rw [upN_n _ _ (by omega)]; exact hl r h1 (by omega))
    have e3 : hD kd (upN R (b + k) .leaf) b k (dO kd q (R (b + k))) = hD kd R b (k + 1) q := by
      rw [hD_cg (R := R) k _ (fun r h1 h2 => upN_n _ _ (by omega))]; rfl
    rw [e3, f_clr_up] at hRI2
    rw [e3] at e2
    refine ⟨ki2, sp2, bx2, rws2, fl2, ?_, hRI2⟩
    rw [← e2]
    conv => lhs; rw [uB5_empty_0]
    have hbl : ah fr ≤ b + (k + 1) := by omega
    have e5 : b + (k + 1) - b = k + 1 := by omega
    have e6 : b + (k + 1) - 1 = b + k := by omega
    have hk24 : b + k < 24 := by omega
    simp (disch := first | exact q_two_i _ | exact q_two_r _ | exact q_two_n | exact q_sh0 | exact q_sh1 _ | exact q_sh2 _ _ | exact q_sh3 _ _ _ | exact q_sh4 _ _ _ _ | exact c_cl_5 hq | exact c_tc_5_3 _ | exact c_tc_5_7 _ | exact c_tc_5_8 _ | exact c_tc_5_12 _ | exact c_tc_5_13 _ | exact c_tc_5_15 _ | exact c_tc_5_16 _ | exact c_tc_5_17 _ | exact c_tc_5_18 _ | exact c_tc_5_19 _ | exact c_tc_5_21 _ | exact c_tc_5_22 _ | exact c_tc_5_20a | exact c_tc_5_20b | exact z_01 | exact z_11 | exact nz_24 | exact nz_16 | assumption | omega) only [x_aload_0, x_iv_0, x_kx1, x_kx0, x_if_le, x_dup_int, x_dup_ref, x_getf, c_gf_5_12, x_iconst, x_isub, x_putf, c_pf_5_12, c_gf_5_9, x_iaload, x_iv_1, x_goto, x_bipush, x_istore_1, x_iload_1, x_if_lt, c_gf_5_10, x_if_eq, x_iastore, x_iinc_1, x_ret_v, jB5_empty_0, jB5_empty_33, jB5_empty_36, jB5_empty_67, jB5_empty_84, uB5_empty_33, uB5_empty_67, uB5_empty_84, n_0, n_1, n_2, n_3, n_4, n_5, n_6, n_7, n_8, n_9, n_10, n_12, n_13, n_15, n_16, n_20, n_24, n_60, n_64, n_72, n_96, n_192, n_256, n_400, n_808, n_960, n_1440, n_2048, n_2720, n_16777215, n_1000000, l_0, l_1, l_8, l_20, l_60, l_lt_t, l_lt_f, l_ge_t, l_ge_f, l_eq_t, l_eq_f, lN_i, nI_l, i_lt_t, i_lt_f, i_le_t, i_le_f, i_eq_t, i_eq_f, ↓n_m1, ↓n_m2, i_m1, i_m1s, i_m1lt, i_m1le, i_m1l2, i_m1l3, i_mm, nI_add, pk_mul, i_sub, i_dec, i_dec0, i_s01, i_div, Nat.reduceAdd, Nat.reduceSub, Nat.reduceMul, Nat.zero_add, if_true, if_false, not_true, not_false_eq_true, ↓reduceIte, hq, m_mine, hb, e5, e6, c_g_25, hlt, e1]
/-- empty, over k values on the hand -/
theorem m_em {sh : Nat} {kd kz : Nat → Nat} {ko : Nat → Int32} {q1 q2 q3 cp : Nat} {so ki : Nat → Nat} {nu : Nat → Int64} {no sp : Nat} {hn sl ah : Nat → Nat} {fr : Nat} {ou : Nat → Int64} {tol bx rws ma dpd isl inn atk : Nat} {ps : Nat → Int32} {g : Nat → Option am_E} {n m d b k f : Nat} {R : Nat → Fo} {fl : List Nat} (hq : OKq q1 q2 q3) (h17 : 17 < q1 ∧ 17 < q2 ∧ 17 < q3) (hc : cp < 100000) (hS : s_ok sh kd kz ps) (hk : sh ≤ 24) (hK : ∀ i, i < 3 * sh → ko i = ps i) (hno : no ≤ cp) (hf : f < 12) (hfr : fr = f + 1) (hb : ah fr = b) (h24 : b + k ≤ 24) (hRI : RI sh kd ps so ki nu no sp bx rws tol R fl) (hlh : ∀ r, b ≤ r → r < b + k → f_len (R r) = 1 ∧ hn r = f_rt (R r) 0) (hls : ∀ j, j < 96 → sl j = f_rt (R (24 + j)) 0) :
    ∃ ki' sp' bx' rws' fl' Q, Q = hD kd (f_clr R b k) (24 + f * 8) 8 (hD kd R b k (ou, tol, dpd)) ∧ ev (d + 517) 141 [.ref 18] (n, m, RO sh kd kz ko q1 q2 q3 cp so ki nu no sp hn sl ah (b + k) fr ou tol bx rws ma dpd isl inn atk g) = some (none, (n, m, RO sh kd kz ko q1 q2 q3 cp so (ki') nu no (sp') hn (sshC 0 sl (f * 8) 8) ah (b) fr (Q.1) (Q.2.1) (bx') (rws') ma (Q.2.2) isl inn atk g)) ∧ RI sh kd ps so ki' nu no sp' bx' rws' Q.2.1 (f_clr (f_clr R b k) (24 + f * 8) 8) fl' := by
  obtain ⟨ki1, sp1, bx1, rws1, fl1, e1, hRI1⟩ := m_emH (sh := sh) (kd := kd) (kz := kz) (ko := ko) (q1 := q1) (q2 := q2) (q3 := q3) (cp := cp) (so := so) (nu := nu) (no := no) (hn := hn) (sl := sl) (ah := ah) (fr := fr) (ma := ma) (isl := isl) (inn := inn) (atk := atk) (g := g) (n := n) (m := m) (d := d) (l1 := none) hq h17 hc hS hk hK hno (by omega) hb k ki sp bx rws R fl (ou, tol, dpd) h24 hRI hlh
  obtain ⟨ki2, sp2, bx2, rws2, fl2, e2, hRI2⟩ := m_emS (sh := sh) (kd := kd) (kz := kz) (ko := ko) (q1 := q1) (q2 := q2) (q3 := q3) (cp := cp) (so := so) (nu := nu) (no := no) (hn := hn) (ah := ah) (he := b) (fr := fr) (ma := ma) (isl := isl) (inn := inn) (atk := atk) (g := g) (n := n) (m := m) (d := d) hq h17 hc hS hk hK hno hf hfr 8 ki1 sp1 sl bx1 rws1 (f_clr R b k) fl1 (hD kd R b k (ou, tol, dpd)) (by omega) hRI1 (fun p hp => by
    unfold f_clr
    rw [if_neg (by omega), hls _ (by omega), show 24 + (f * 8 + p) = 24 + f * 8 + p by omega])
  refine ⟨ki2, sp2, bx2, rws2, fl2, _, rfl, ?_, hRI2⟩
  rw [show iM 8 = nI 7 from iM_s 7] at e2
  dsimp only at e1
  rw [e2] at e1
  rw [eB5_empty]
  exact e1
