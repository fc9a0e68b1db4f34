/-! The reference's drop, for every forest. -/
theorem f_okR_1 {so ki : Nat → Nat} {nu : Nat → Int64} {s : Nat} {k : Nat × Nat} {v : Int64} {K N : Fo} (h : f_okR so ki nu (.inner s k v K N)) : f_okR so ki nu (.inner s k v K .leaf) := ⟨h.1, h.2.1, trivial⟩
theorem m_all : ∀ F : Fo, m_L F := by
  intro F
  induction F with
  | leaf =>
    intro sh kd kz ko q1 q2 q3 cp so nu no hn sl ah he fr ma isl inn atk g n m d x kx ki sp ou tol bx rws dpd fl j hq hc h3 hx hsh hkd hl hT hR hz hki hu hfr hb hr ht
    exact ⟨ki, sp, fl, rfl, hfr, fun z => by simp [f_cx], fun z _ i _ => rfl, ht⟩
  | inner s k v K N ihK ihN =>
    intro sh kd kz ko q1 q2 q3 cp so nu no hn sl ah he fr ma isl inn atk g n m d x kx ki sp ou tol bx rws dpd fl j hq hc h3 hx hsh hkd hl hT hR hz hki hu hfr hb hr ht
    have hz1 : ∀ z, f_cx z (.inner s k v K N) = f_cx z (.inner s k v K .leaf) + f_cx z N := fun z => by simp only [f_cx]; omega
    have hn1 : ∀ q, f_nk kd q (.inner s k v K N) = f_nk kd q (.inner s k v K .leaf) + f_nk kd q N := fun q => by simp only [f_nk]; omega
    have ht1 : f_tl kd (.inner s k v K N) = f_tl kd (.inner s k v K .leaf) ++ f_tl kd N := by simp only [f_tl, List.append_nil, List.append_assoc]
    have hkx := hz k.1 (by simp only [f_cx, if_true]; omega)
    rw [hn1] at hb hr
    simp only [f_len] at hl
    obtain ⟨ki1, sp1, fl1, g1, g2, g3, g4⟩ := m_T ihK (sh := sh) (kd := kd) (kz := kz) (ko := ko) (q1 := q1) (q2 := q2) (q3 := q3) (cp := cp) (so := so) (ki := ki) (nu := nu) (no := no) (sp := sp) (hn := hn) (sl := sl) (ah := ah) (he := he) (fr := fr) (ou := ou) (tol := tol) (bx := bx) (rws := rws) (ma := ma) (dpd := dpd) (isl := isl) (inn := inn) (atk := atk) (g := g) (n := n) (m := m) (d := d + (f_h (.inner s k v K N) - (f_h K + 1))) (s := s) (k := k) (v := v) fl hq hc h3 hsh hkd ⟨hT.1, hT.2.1, hT.2.2.1, trivial⟩ (f_okR_1 hR) (fun z h => hz z (by rw [hz1]; omega)) (fun z => by have := hu z; rw [hz1] at this; omega) hfr (by omega) (by omega) ht
    have hdep : d + (f_h (.inner s k v K N) - (f_h K + 1)) + f_h K + 2 = d + f_h (.inner s k v K N) + 1 := by simp only [f_h]; omega
    rw [hdep] at g1
    have hRN : f_okR so ki1 nu N := f_okR_keep hR.2.2 (fun z h i hi => g4 z (by have := hu z; rw [hz1] at this; omega) i hi)
    have hux := hu x
    simp only [if_true] at hux
    rw [hz1] at hux
    obtain ⟨ki2, sp2, fl2, k1, k2, k3, k4, k5⟩ := ihN (sh := sh) (kd := kd) (kz := kz) (ko := ko) (q1 := q1) (q2 := q2) (q3 := q3) (cp := cp) (so := so) (nu := nu) (no := no) (hn := hn) (sl := sl) (ah := ah) (he := he) (fr := fr) (ma := ma) (isl := isl) (inn := inn) (atk := atk) (g := g) (n := n) (m := m) (d := d + (f_h (.inner s k v K N) - f_h N)) (x := x) (kx := kx) ki1 sp1 (outp ou tol (f_tl kd (.inner s k v K .leaf))).1 (outp ou tol (f_tl kd (.inner s k v K .leaf))).2 (bx - f_nk kd 4 (.inner s k v K .leaf)) (rws - f_nk kd 5 (.inner s k v K .leaf)) (dpd + f_nk kd 2 (.inner s k v K .leaf)) fl1 (j + 1) hq hc h3 hx hsh hkd (by omega) hT.2.2.2 hRN (fun z h => hz z (by rw [hz1]; omega))
      (fun i hi => by
        rw [g4 x (by omega) _ (by omega)]
        have e := hki (i + 1) (by omega)
        simp only [f_rt] at e
        rw [← e]
        congr 1
        omega)
      (fun z => by have h1 := hu z; rw [hz1] at h1; have h2 := g3 z; omega) g2 (by omega) (by omega) (outp_le _ _ _ ht)
    have hdep2 : d + (f_h (.inner s k v K N) - f_h N) + f_h N + 1 = d + f_h (.inner s k v K N) + 1 := by simp only [f_h]; omega
    rw [hdep2] at k1
    refine ⟨ki2, sp2, fl2, ?_, k2, fun z => by rw [k3, g3, hz1]; omega, fun z h i hi => by rw [k4 z (by rw [hz1] at h; omega) i hi, g4 z (by rw [hz1] at h; omega) i hi], outp_le _ _ _ ht⟩
    have h0 := hki 0 (by omega)
    simp only [f_rt, Nat.add_zero] at h0
    conv => lhs; rw [uB5_dropped_66]
    simp (disch := first | exact q_two_i _ | exact q_two_r _ | exact q_two_n | exact q_sh0 | exact q_sh1 _ | exact q_sh2 _ _ | exact q_sh3 _ _ _ | exact q_sh4 _ _ _ _ | exact c_cl_5 hq | exact c_tc_5_3 _ | exact c_tc_5_7 _ | exact c_tc_5_8 _ | exact c_tc_5_12 _ | exact c_tc_5_13 _ | exact c_tc_5_15 _ | exact c_tc_5_16 _ | exact c_tc_5_17 _ | exact c_tc_5_18 _ | exact c_tc_5_19 _ | exact c_tc_5_21 _ | exact c_tc_5_22 _ | exact c_tc_5_20a | exact c_tc_5_20b | exact z_01 | exact z_11 | exact nz_24 | exact nz_16 | assumption | omega) only [x_aload_0, x_iload_1, x_iv_1, x_kx1, x_kx0, x_istore_2, x_iload_2, x_iconst, x_ic_ne, x_getf, c_gf_5_15, x_sipush, x_ic_ge, c_gf_5_14, c_gf_5_6, c_gf_5_5, x_bipush, x_imul, x_iaload, x_laload, x_lastore, x_dup_int, x_dup_ref, x_iadd, x_putf, c_pf_5_15, c_gf_5_19, c_pf_5_19, x_istore_3, x_iload_3, x_if_eq, x_iinc_3, x_goto, c_gf_5_16, x_isub, c_pf_5_16, c_gf_5_17, c_pf_5_17, x_ret_v, jB5_dropped_54, jB5_dropped_64, jB5_dropped_66, jB5_dropped_101, jB5_dropped_107, jB5_dropped_121, jB5_dropped_122, jB5_dropped_140, jB5_dropped_141, uB5_dropped_43, uB5_dropped_54, uB5_dropped_64, uB5_dropped_101, uB5_dropped_107, uB5_dropped_121, uB5_dropped_122, uB5_dropped_140, uB5_dropped_141, n_0, n_1, n_2, n_3, n_4, n_5, n_6, n_7, n_8, n_9, n_10, n_12, n_13, n_15, n_16, n_20, n_24, n_60, n_64, n_72, n_96, n_192, n_256, n_400, n_808, n_960, n_1440, n_2048, n_2720, n_16777215, n_1000000, l_0, l_1, l_8, l_20, l_60, l_lt_t, l_lt_f, l_ge_t, l_ge_f, l_eq_t, l_eq_f, lN_i, nI_l, i_lt_t, i_lt_f, i_le_t, i_le_f, i_eq_t, i_eq_f, ↓n_m1, ↓n_m2, i_m1, i_m1s, i_m1lt, i_m1le, i_m1l2, i_m1l3, i_mm, nI_add, pk_mul, i_sub, i_dec, i_dec0, i_s01, i_div, Nat.reduceAdd, Nat.reduceSub, Nat.reduceMul, Nat.zero_add, if_true, if_false, not_true, not_false_eq_true, hq, c_g_q2, h0, g1]
    simp only [f_len, ht1, outp_app, hn1]
    rw [k1]
    have a1 : j + 1 + f_len N = j + (f_len N + 1) := by omega
    have a2 : bx - f_nk kd 4 (.inner s k v K .leaf) - f_nk kd 4 N = bx - (f_nk kd 4 (.inner s k v K .leaf) + f_nk kd 4 N) := by omega
    have a3 : rws - f_nk kd 5 (.inner s k v K .leaf) - f_nk kd 5 N = rws - (f_nk kd 5 (.inner s k v K .leaf) + f_nk kd 5 N) := by omega
    have a4 : dpd + f_nk kd 2 (.inner s k v K .leaf) + f_nk kd 2 N = dpd + (f_nk kd 2 (.inner s k v K .leaf) + f_nk kd 2 N) := by omega
    rw [a1, a2, a3, a4]
/-- a value is dropped -/
theorem m_drop {sh : Nat} {kd kz : Nat → Nat} {ko : Nat → Int32} {q1 q2 q3 cp : Nat} {so ki : Nat → Nat} {nu : Nat → Int64} {no sp : Nat} {hn sl ah : Nat → Nat} {he fr : Nat} {ou : Nat → Int64} {tol bx rws ma dpd isl inn atk : Nat} {g : Nat → Option am_E} {n m d s : Nat} {k : Nat × Nat} {v : Int64} {K : Fo} (fl : List Nat) (hq : OKq q1 q2 q3) (hc : cp < 100000) (h3 : q1 ≠ 0 ∧ q2 ≠ 0 ∧ q3 ≠ 0) (hsh : sh ≤ 24) (hkd : ∀ s, s < sh → kd s < 100) (hT : f_okT sh kd ko (.inner s k v K .leaf)) (hR : f_okR so ki nu (.inner s k v K .leaf)) (hz : ∀ z, 0 < f_cx z (.inner s k v K .leaf) → 1 ≤ z ∧ z < cp) (hu : ∀ z, f_cx z (.inner s k v K .leaf) + fl.count z ≤ 1) (hfr : fr_ok ki sp fl) (hb : f_nk kd 4 (.inner s k v K .leaf) ≤ bx) (hr : f_nk kd 5 (.inner s k v K .leaf) ≤ rws) (ht : tol ≤ 400) :
    ∃ ki' sp' fl', ev (d + f_h K + 2) 119 [.ref 18, .int (nI k.1)] (n, m, RO sh kd kz ko q1 q2 q3 cp so ki nu no sp hn sl ah he fr ou tol bx rws ma dpd isl inn atk g) = some (none, (n, m, RO sh kd kz ko q1 q2 q3 cp so (ki') nu no (sp') hn sl ah he fr ((outp ou tol (f_tl kd (.inner s k v K .leaf))).1) ((outp ou tol (f_tl kd (.inner s k v K .leaf))).2) (bx - f_nk kd 4 (.inner s k v K .leaf)) (rws - f_nk kd 5 (.inner s k v K .leaf)) ma (dpd + f_nk kd 2 (.inner s k v K .leaf)) isl inn atk g)) ∧ fr_ok ki' sp' fl' ∧ (∀ z, fl'.count z = fl.count z + f_cx z (.inner s k v K .leaf)) ∧ (∀ z, f_cx z (.inner s k v K .leaf) = 0 → ∀ i, i < 8 → ki' (8 * z + i) = ki (8 * z + i)) :=
  m_T (m_all K) fl hq hc h3 hsh hkd hT hR hz hu hfr hb hr ht
theorem f_h_sz : ∀ F : Fo, f_h F ≤ f_sz F
  | .leaf => Nat.le_refl _
  | .inner s k v K N => by
    have h1 := f_h_sz K
    have h2 := f_h_sz N
    simp only [f_h, f_sz]
    omega
