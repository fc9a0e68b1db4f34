/-! The class drops one node, in the words of the ghost trees. -/
theorem f_sh_lt {kn : Nat} {ks : Nat → Nat} {ps : Nat → Int32} : ∀ {K : Fo}, f_okT kn ks ps K → ∀ i, i < f_len K → f_sh K i < kn
  | .leaf, _, i, hi => by simp [f_len] at hi
  | .inner s k v K N, h, 0, _ => h.1
  | .inner s k v K N, h, i + 1, hi => f_sh_lt (K := N) h.2.2.2 i (by simp [f_len] at hi; omega)
theorem c_aF {kn : Nat} {ks zs : Nat → Nat} {ps : Nat → Int32} {ce : Nat → Int64} {bt rt rl : Nat → Nat} {nb nr : Nat} {hsh hst : Nat → Nat} {ssh : Nat → Int32} {ih th : Nat} {wt : Nat → Nat} {os : Nat → Int64} {wn oc dr tm : Nat} {fa : Int32} {g : Nat → Option am_E} {n m d s a : Nat} {K : Fo} {L : List Nat} (hS : s_ok kn ks zs ps) (hk : kn ≤ 24) (hs : s < kn) (hq : ks s = 1 ∨ ks s = 2) (hl : f_len K = s_np ps s) (hp : ∀ i, i < f_len K → ps (s * 3 + i) = nI (f_sh K i)) (hTK : f_okT kn ks ps K) (ha : a + zs s ≤ 2720) (hpw : pw wt L) (hwn : wn = L.length) (hw : wn + f_len K ≤ 808) : ∃ wt', ev (d + 3) 8 [.ref 15, .int (nI s), .int (nI a)] (n, m, CO kn ks zs ps ce bt rt rl nb nr hsh hst ssh ih th wt os wn oc dr tm fa g) = some (none, (n, m, CO kn ks zs ps ce bt rt rl nb nr hsh hst ssh ih th (wt') os (wn + f_len K) oc dr tm fa g)) ∧ pw wt' (p_ents zs K a false ++ L) := by
  obtain ⟨hs1, hs2, hs3, hs4, hs5, hs6, hs7, hs8, hs9⟩ := hS.2 s hs
  obtain ⟨-, h12, hz, hlt⟩ := hs6 hq
  have big : ∀ p, p < kn → p < 2 ^ 31 := fun p h => by omega
  unfold s_np at hl
  split at hl
  · rename_i h1
    obtain ⟨p0, k0, v0, K0, N0, rfl, hN⟩ := f_lenS hl
    obtain rfl := f_len0 hN
    have e0 := hp 0 (by rw [hl]; decide)
    simp only [f_sh] at e0
    have l0 := f_sh_lt hTK 0 (by rw [hl]; decide)
    simp only [f_sh] at l0
    rw [s_zp_n e0 (big _ l0), s_zp_m h1, s_zp_m (h12 h1)] at hz
    refine ⟨_, c_aF1 s a p0 hk hs e0 h1 (h12 h1) l0 (by omega) (by omega) (by rw [hl] at hw; omega) hs3, ?_⟩
    simp only [p_ents, List.cons_append, List.nil_append]
    exact pw_push hpw hwn
  · rename_i h1
    split at hl
    · rename_i h2
      obtain ⟨p0, k0, v0, K0, N0, rfl, hN⟩ := f_lenS hl
      obtain ⟨p1, k1, v1, K1, N1, rfl, hN1⟩ := f_lenS hN
      obtain rfl := f_len0 hN1
      have e0 := hp 0 (by rw [hl]; decide)
      have e1 := hp 1 (by rw [hl]; decide)
      have l0 := f_sh_lt hTK 0 (by rw [hl]; decide)
      have l1 := f_sh_lt hTK 1 (by rw [hl]; decide)
      simp only [f_sh] at e0 l0 e1 l1
      have z1 := (hS.2 p1 l1).2.1
      rw [s_zp_n e0 (big _ l0), s_zp_n e1 (big _ l1), s_zp_m h2] at hz
      refine ⟨_, c_aF2 s a p0 p1 hk hs e0 e1 h2 l0 l1 (by omega) ha (by omega) (by rw [hl] at hw; omega) hs3, ?_⟩
      simp only [p_ents, List.cons_append, List.nil_append, Bool.false_eq_true, if_false]
      exact pw_push (pw_push hpw hwn) (by simp [hwn])
    · rename_i h2
      obtain ⟨p0, k0, v0, K0, N0, rfl, hN⟩ := f_lenS hl
      obtain ⟨p1, k1, v1, K1, N1, rfl, hN1⟩ := f_lenS hN
      obtain ⟨p2, k2, v2, K2, N2, rfl, hN2⟩ := f_lenS hN1
      obtain rfl := f_len0 hN2
      have e0 := hp 0 (by rw [hl]; decide)
      have e1 := hp 1 (by rw [hl]; decide)
      have e2 := hp 2 (by rw [hl]; decide)
      have l0 := f_sh_lt hTK 0 (by rw [hl]; decide)
      have l1 := f_sh_lt hTK 1 (by rw [hl]; decide)
      have l2 := f_sh_lt hTK 2 (by rw [hl]; decide)
      simp only [f_sh] at e0 l0 e1 l1 e2 l2
      have z1 := (hS.2 p1 l1).2.1
      have z2 := (hS.2 p2 l2).2.1
      rw [s_zp_n e0 (big _ l0), s_zp_n e1 (big _ l1), s_zp_n e2 (big _ l2)] at hz
      refine ⟨_, c_aF3 s a p0 p1 p2 hk hs e0 e1 e2 l0 l1 l2 (by omega) ha (by omega) (by omega) (by rw [hl] at hw; omega) hs3, ?_⟩
      simp only [p_ents, List.cons_append, List.nil_append, Bool.false_eq_true, if_false]
      exact pw_push (pw_push (pw_push hpw hwn) (by simp [hwn])) (by simp [hwn])
/-- one node: what changes of boxes, rows and what is told; its kids come on the pile -/
theorem c_node {kn : Nat} {ks zs : Nat → Nat} {ps : Nat → Int32} {ce : Nat → Int64} {bt rt rl : Nat → Nat} {nb nr : Nat} {hsh hst : Nat → Nat} {ssh : Nat → Int32} {ih th : Nat} {wt : Nat → Nat} {os : Nat → Int64} {wn oc dr tm : Nat} {fa : Int32} {g : Nat → Option am_E} {n m d s a : Nat} {k : Nat × Nat} {v : Int64} {K : Fo} {L : List Nat} (hS : s_ok kn ks zs ps) (hk : kn ≤ 24) (hs : s < kn) (hT : f_ty ks ps s v K) (hTK : f_okT kn ks ps K) (ha : a + zs s ≤ 2720)
    (hC : (ks s = 0 → ce a = v) ∧ (ks s = 1 ∨ ks s = 2 → f_okC ks zs ce rl K a false) ∧ (ks s = 3 → ce a = v ∧ f_okC ks zs ce rl K (a + 1) false) ∧ (ks s = 4 → ce a = lN k.2 ∧ k.2 < 60 ∧ f_okC ks zs ce rl K (960 + k.2 * 8) false) ∧ (ks s = 5 → ce a = lN k.2 ∧ k.2 < 20 ∧ rl k.2 = f_len K ∧ f_okC ks zs ce rl K (1440 + k.2 * 64) true))
    (hpw : pw wt L) (hwn : wn = L.length) (hw : wn + f_len K ≤ 808) (hb : ks s = 4 → bt k.2 = 1 ∧ 0 < nb ∧ nb ≤ 60) (hr : ks s = 5 → rt k.2 = 1 ∧ 0 < nr ∧ nr ≤ 20) (ho : oc ≤ 400) :
    ∃ wt', ev (d + 5) 6 [.ref 15, .int (nI s), .int (nI a)] (n, m, CO kn ks zs ps ce bt rt rl nb nr hsh hst ssh ih th wt os wn oc dr tm fa g) = some (none, (n, m, CO kn ks zs ps ce (if ks s = 4 then upN bt k.2 0 else bt) (if ks s = 5 then upN rt k.2 0 else rt) rl (if ks s = 4 then nb - 1 else nb) (if ks s = 5 then nr - 1 else nr) hsh hst ssh ih th (wt') (if ks s = 2 then o1 os oc (f_v K) else os) (wn + f_len K) (if ks s = 2 then n1 oc else oc) (if ks s = 2 then dr + 1 else dr) tm fa g)) ∧ pw wt' (p_ents zs K (f_ka ks s k.2 a) (f_kw ks s) ++ L) := by
  obtain ⟨hs1, hs2, hs3, hs4, hs5, hs6, hs7, hs8, hs9⟩ := hS.2 s hs
  rcases hT with ⟨h, rfl⟩ | ⟨h, hl, hp⟩ | ⟨h, t, ht, hv, hcase⟩ | ⟨h, hl, hp⟩ | ⟨h, hv, hl, hp⟩
  · refine ⟨wt, ?_, by simpa [p_ents] using hpw⟩
    simp only [h, f_len, Nat.add_zero, reduceIte, Nat.reduceEqDiff]
    exact c_dO0 (d := d + 1) s a hk hs h
  · rcases h with h | h
    · obtain ⟨wt', e1, e2⟩ := c_aF (kn := kn) (ks := ks) (zs := zs) (ps := ps) (ce := ce) (bt := bt) (rt := rt) (rl := rl) (nb := nb) (nr := nr) (hsh := hsh) (hst := hst) (ssh := ssh) (ih := ih) (th := th) (wt := wt) (os := os) (wn := wn) (oc := oc) (dr := dr) (tm := tm) (fa := fa) (g := g) (n := n) (m := m) (d := d + 1) hS hk hs (Or.inl h) hl hp hTK ha hpw hwn hw
      refine ⟨wt', ?_, by simpa [f_ka, f_kw, h] using e2⟩
      simp only [h, reduceIte, Nat.reduceEqDiff]
      simp (disch := first | exact q_two_i _ | exact q_two_r _ | exact q_two_n | exact q_sh0 | exact q_sh1 _ | exact q_sh2 _ _ | exact q_sh3 _ _ _ | exact q_sh4 _ _ _ _ | exact c_cl_0 .. | exact c_cl_1 .. | exact c_cl_2 .. | exact c_cl_3 .. | exact c_cl_4 .. | exact c_tc_4_4 _ | exact c_tc_4_5 _ | exact c_tc_3_3 _ | exact c_tc_2_4 _ | exact c_tc_2_5 _ | exact c_tc_1_3 _ | exact c_tc_1_4 _ | exact c_tc_0_4 _ | exact c_tc_0_5 _ | exact c_tc_0_6 _ | exact z_01 | exact z_11 | exact nz_24 | exact nz_16 | assumption | omega) only [eB0_dropOne, x_aload_0, x_getf, c_gf_0_0, x_iload_1, x_iv_1, x_kx1, x_kx0, x_tsw, q_sw0, q_sw1, q_jif, q_xif, c_gf_0_1, x_iload_2, x_iv_2, x_goto, x_l2i, x_iconst, x_iadd, x_ret_v, jB0_dropOne_44, jB0_dropOne_65, jB0_dropOne_74, jB0_dropOne_101, jB0_dropOne_117, jB0_dropOne_133, uB0_dropOne_0, uB0_dropOne_44, uB0_dropOne_65, uB0_dropOne_74, uB0_dropOne_101, uB0_dropOne_117, uB0_dropOne_133, n_0, n_1, n_2, n_3, n_4, n_5, n_6, n_7, n_8, n_9, n_10, n_12, n_13, n_15, n_16, n_20, n_24, n_60, n_64, n_72, n_96, n_192, n_256, n_400, n_808, n_960, n_1440, n_2048, n_2720, n_16777215, n_1000000, l_0, l_1, l_8, l_20, l_60, l_lt_t, l_lt_f, l_ge_t, l_ge_f, l_eq_t, l_eq_f, lN_i, nI_l, i_lt_t, i_lt_f, i_le_t, i_le_f, i_eq_t, i_eq_f, ↓n_m1, ↓n_m2, i_m1, i_m1s, i_m1lt, i_m1le, i_m1l2, i_m1l3, i_mm, nI_add, pk_mul, i_sub, i_dec, i_dec0, i_s01, i_div, Nat.reduceAdd, Nat.reduceSub, Nat.reduceMul, Nat.zero_add, if_true, if_false, not_true, not_false_eq_true, c_kind, h, e1]
    · have h0 := hs7 h
      have hl1 : 0 < f_len K := by rw [hl]; unfold s_np; split <;> (try split) <;> omega
      have hv0 : ce a = f_v K := by
        obtain ⟨p0, k0, v0, K0, N0, rfl, hN⟩ := f_lenS (K := K) (n := f_len K - 1) (by omega)
        have e0 := hp 0 hl1
        simp only [f_sh] at e0
        have l0 := f_sh_lt hTK 0 hl1
        simp only [f_sh] at l0
        rw [h0] at e0
        have hp0 : p0 = 0 := ((nI_eq (by decide) (by omega)).mp e0).symm
        subst hp0
        have hk0 : ks 0 = 0 := hS.1.2.1
        exact ((hC.2.1 (Or.inr h)).1).1 hk0
      obtain ⟨wt', e1, e2⟩ := c_aF (kn := kn) (ks := ks) (zs := zs) (ps := ps) (ce := ce) (bt := bt) (rt := rt) (rl := rl) (nb := nb) (nr := nr) (hsh := hsh) (hst := hst) (ssh := ssh) (ih := ih) (th := th) (wt := wt) (os := o1 os oc (f_v K)) (wn := wn) (oc := n1 oc) (dr := dr + 1) (tm := tm) (fa := fa) (g := g) (n := n) (m := m) (d := d + 1) hS hk hs (Or.inr h) hl hp hTK ha hpw hwn hw
      refine ⟨wt', ?_, by simpa [f_ka, f_kw, h] using e2⟩
      simp only [h, reduceIte, Nat.reduceEqDiff]
      simp (disch := first | exact q_two_i _ | exact q_two_r _ | exact q_two_n | exact q_sh0 | exact q_sh1 _ | exact q_sh2 _ _ | exact q_sh3 _ _ _ | exact q_sh4 _ _ _ _ | exact c_cl_0 .. | exact c_cl_1 .. | exact c_cl_2 .. | exact c_cl_3 .. | exact c_cl_4 .. | exact c_tc_4_4 _ | exact c_tc_4_5 _ | exact c_tc_3_3 _ | exact c_tc_2_4 _ | exact c_tc_2_5 _ | exact c_tc_1_3 _ | exact c_tc_1_4 _ | exact c_tc_0_4 _ | exact c_tc_0_5 _ | exact c_tc_0_6 _ | exact z_01 | exact z_11 | exact nz_24 | exact nz_16 | assumption | omega) only [eB0_dropOne, x_aload_0, x_getf, c_gf_0_0, x_iload_1, x_iv_1, x_kx1, x_kx0, x_tsw, q_sw0, q_sw1, q_jif, q_xif, c_gf_0_1, x_iload_2, x_iv_2, x_goto, x_l2i, x_iconst, x_iadd, x_ret_v, jB0_dropOne_44, jB0_dropOne_65, jB0_dropOne_74, jB0_dropOne_101, jB0_dropOne_117, jB0_dropOne_133, uB0_dropOne_0, uB0_dropOne_44, uB0_dropOne_65, uB0_dropOne_74, uB0_dropOne_101, uB0_dropOne_117, uB0_dropOne_133, n_0, n_1, n_2, n_3, n_4, n_5, n_6, n_7, n_8, n_9, n_10, n_12, n_13, n_15, n_16, n_20, n_24, n_60, n_64, n_72, n_96, n_192, n_256, n_400, n_808, n_960, n_1440, n_2048, n_2720, n_16777215, n_1000000, l_0, l_1, l_8, l_20, l_60, l_lt_t, l_lt_f, l_ge_t, l_ge_f, l_eq_t, l_eq_f, lN_i, nI_l, i_lt_t, i_lt_f, i_le_t, i_le_f, i_eq_t, i_eq_f, ↓n_m1, ↓n_m2, i_m1, i_m1s, i_m1lt, i_m1le, i_m1l2, i_m1l3, i_mm, nI_add, pk_mul, i_sub, i_dec, i_dec0, i_s01, i_div, Nat.reduceAdd, Nat.reduceSub, Nat.reduceMul, Nat.zero_add, if_true, if_false, not_true, not_false_eq_true, c_kind, h, c_read, hv0, c_tl, e1]
  · rcases hcase with ⟨hm, rfl⟩ | ⟨hl, hp⟩
    · refine ⟨wt, ?_, by simpa [p_ents] using hpw⟩
      simp only [h, f_len, Nat.add_zero, reduceIte, Nat.reduceEqDiff]
      exact c_dO3n (d := d + 1) s a t hk hs h ht (by rw [(hC.2.2.1 h).1, hv]) hm (by omega)
    · obtain ⟨p0, k0, v0, K0, N0, rfl, hN⟩ := f_lenS hl
      obtain rfl := f_len0 hN
      have l0 := f_sh_lt hTK 0 (by rw [hl]; decide)
      simp only [f_sh] at hp l0
      have hz := (hs8 h t p0 ht l0 hp).1
      have hz0 := (hS.2 p0 l0).2.1
      refine ⟨upN wt wn ((a + 1) * 24 + p0), ?_, ?_⟩
      · simp only [h, f_len, Nat.zero_add, reduceIte, Nat.reduceEqDiff]
        exact c_dO3 (d := d + 1) s a t p0 hk hs h ht (by rw [(hC.2.2.1 h).1, hv]) hp l0 (by omega) (by rw [hl] at hw; omega)
      · simp only [p_ents, f_ka, f_kw, h, reduceIte, List.cons_append, List.nil_append]
        exact pw_push hpw hwn
  · obtain ⟨p0, k0, v0, K0, N0, rfl, hN⟩ := f_lenS hl
    obtain rfl := f_len0 hN
    have l0 := f_sh_lt hTK 0 (by rw [hl]; decide)
    simp only [f_sh] at hp l0
    obtain ⟨hb1, hb2, hb3⟩ := hb h
    obtain ⟨c1, c2, c3⟩ := hC.2.2.2.1 h
    refine ⟨upN wt wn ((960 + k.2 * 8) * 24 + p0), ?_, ?_⟩
    · simp only [h, f_len, Nat.zero_add, reduceIte, Nat.reduceEqDiff]
      exact c_dO4 (d := d + 1) s a k.2 p0 hk hs h c1 hp l0 (by omega) c2 hb1 hb2 hb3 (by rw [hl] at hw; omega)
    · simp only [p_ents, f_ka, f_kw, h, reduceIte, Nat.reduceEqDiff, List.cons_append, List.nil_append]
      exact pw_push hpw hwn
  · obtain ⟨hr1, hr2, hr3⟩ := hr h
    obtain ⟨c1, c2, c3, c4⟩ := hC.2.2.2.2 h
    obtain ⟨p, hps, hpe⟩ := hs9 h
    have hall : ∀ i, i < f_len K → f_sh K i = p := fun i hi => by
      have e := hp i hi
      rw [hpe] at e
      have l := f_sh_lt hTK i hi
      exact ((nI_eq (by omega) (by omega)).mp e).symm
    obtain ⟨wt', e1, e2⟩ := c_aE (kn := kn) (ks := ks) (zs := zs) (ps := ps) (ce := ce) (bt := bt) (rt := rt) (rl := rl) (nb := nb) (nr := nr) (hsh := hsh) (hst := hst) (ssh := ssh) (ih := ih) (th := th) (wt := wt) (os := os) (wn := wn) (oc := oc) (dr := dr) (tm := tm) (fa := fa) (g := g) (n := n) (m := m) (d := d) s k.2 p L hk hs hpe (by omega) c2 hr1 hr2 hr3 (by omega) hpw hwn (by omega)
    refine ⟨wt', ?_, ?_⟩
    · simp only [h, reduceIte, Nat.reduceEqDiff]
      rw [← c3]
      simp (disch := first | exact q_two_i _ | exact q_two_r _ | exact q_two_n | exact q_sh0 | exact q_sh1 _ | exact q_sh2 _ _ | exact q_sh3 _ _ _ | exact q_sh4 _ _ _ _ | exact c_cl_0 .. | exact c_cl_1 .. | exact c_cl_2 .. | exact c_cl_3 .. | exact c_cl_4 .. | exact c_tc_4_4 _ | exact c_tc_4_5 _ | exact c_tc_3_3 _ | exact c_tc_2_4 _ | exact c_tc_2_5 _ | exact c_tc_1_3 _ | exact c_tc_1_4 _ | exact c_tc_0_4 _ | exact c_tc_0_5 _ | exact c_tc_0_6 _ | exact z_01 | exact z_11 | exact nz_24 | exact nz_16 | assumption | omega) only [eB0_dropOne, x_aload_0, x_getf, c_gf_0_0, x_iload_1, x_iv_1, x_kx1, x_kx0, x_tsw, q_sw0, q_sw1, q_jif, q_xif, c_gf_0_1, x_iload_2, x_iv_2, x_goto, x_l2i, x_iconst, x_iadd, x_ret_v, jB0_dropOne_44, jB0_dropOne_65, jB0_dropOne_74, jB0_dropOne_101, jB0_dropOne_117, jB0_dropOne_133, uB0_dropOne_0, uB0_dropOne_44, uB0_dropOne_65, uB0_dropOne_74, uB0_dropOne_101, uB0_dropOne_117, uB0_dropOne_133, n_0, n_1, n_2, n_3, n_4, n_5, n_6, n_7, n_8, n_9, n_10, n_12, n_13, n_15, n_16, n_20, n_24, n_60, n_64, n_72, n_96, n_192, n_256, n_400, n_808, n_960, n_1440, n_2048, n_2720, n_16777215, n_1000000, l_0, l_1, l_8, l_20, l_60, l_lt_t, l_lt_f, l_ge_t, l_ge_f, l_eq_t, l_eq_f, lN_i, nI_l, i_lt_t, i_lt_f, i_le_t, i_le_f, i_eq_t, i_eq_f, ↓n_m1, ↓n_m2, i_m1, i_m1s, i_m1lt, i_m1le, i_m1l2, i_m1l3, i_mm, nI_add, pk_mul, i_sub, i_dec, i_dec0, i_s01, i_div, Nat.reduceAdd, Nat.reduceSub, Nat.reduceMul, Nat.zero_add, if_true, if_false, not_true, not_false_eq_true, c_kind, h, c_read, c1, e1]
    · rw [show f_kw ks s = true by simp [f_kw, h], show f_ka ks s k.2 a = 1440 + k.2 * 64 by simp [f_ka, h], p_ents_row hall, ← c3]
      exact e2
