/-! The reference's new nodes: node(), wrap(). -/
theorem ki0_s {ki : Nat → Nat} {x i : Nat} (h : i < 8) : ki0 ki x (8 * x + i) = 0 := by
  unfold ki0 upN
  have : i = 0 ∨ i = 1 ∨ i = 2 ∨ i = 3 ∨ i = 4 ∨ i = 5 ∨ i = 6 ∨ i = 7 := by omega
  rcases this with rfl | rfl | rfl | rfl | rfl | rfl | rfl | rfl <;> simp
theorem ki0_n {ki : Nat → Nat} {x z i : Nat} (h : i < 8) (hz : z ≠ x) : ki0 ki x (8 * z + i) = ki (8 * z + i) := by
  unfold ki0
  rw [upN_n _ _ (by omega), upN_n _ _ (by omega), upN_n _ _ (by omega), upN_n _ _ (by omega), upN_n _ _ (by omega), upN_n _ _ (by omega), upN_n _ _ (by omega), upN_n _ _ (by omega)]
/-- what a new node x is -/
def NW (n m no : Nat) (so ki : Nat → Nat) (nu : Nat → Int64) (R : Nat → Fo) (fl : List Nat) (s : Nat) (v : Int64) (x q1 q2 q3 cp : Nat) (so' ki' : Nat → Nat) (nu' : Nat → Int64) (no' sp' : Nat) (fl' : List Nat) (n' m' : Nat) : Prop :=
  ((OKq q1 q2 q3 ∧ 17 < q1 ∧ 17 < q2 ∧ 17 < q3) ∧ NQ n' q1 q2 q3 ∧ n' ≤ n + 3 ∧ m' ≤ m + 20 * no) ∧ (cp < 100000 ∧ 1 ≤ no' ∧ no' ≤ cp ∧ no ≤ no' ∧ no' ≤ no + 1) ∧ (rF (f_cx x) R = 0 ∧ fl'.count x = 0 ∧ 1 ≤ x ∧ x < no') ∧ (so' x = s ∧ nu' x = v ∧ ∀ i, i < 8 → ki' (8 * x + i) = 0) ∧ (∀ z, z ≠ x → z < no → so' z = so z ∧ nu' z = nu z ∧ ∀ i, i < 8 → ki' (8 * z + i) = ki (8 * z + i)) ∧ fr_ok ki' sp' fl' ∧ ∀ z, z ≠ x → fl'.count z = fl.count z
theorem m_new {sh : Nat} {kd kz : Nat → Nat} {ko : Nat → Int32} {q1 q2 q3 cp : Nat} {so ki : Nat → Nat} {nu : Nat → Int64} {no sp : Nat} {hn sl ah : Nat → Nat} {he fr : Nat} {ou : Nat → Int64} {tol bx rws ma dpd isl inn atk : Nat} {n m d : Nat} {R : Nat → Fo} {fl : List Nat} (s : Nat) (v : Int64) (hq : OKq q1 q2 q3) (hq17 : 17 < q1 ∧ 17 < q2 ∧ 17 < q3) (hN : NQ n q1 q2 q3) (hR : IR1 so ki nu no sp R fl) (hc : cp < 100000) (h1 : 1 ≤ no) (h2 : no ≤ cp) (h3 : no ≤ 10000) : ∃ x q1' q2' q3' cp' so' ki' nu' no' sp' fl' n' m', (∀ g, ∃ g', ev (d + 2) 115 [.ref 18, .int (nI s), .long v] (n, m, RO sh kd kz ko q1 q2 q3 cp so ki nu no sp hn sl ah he fr ou tol bx rws ma dpd isl inn atk g) = some (some (.int (nI x)), (n', m', RO sh kd kz ko (q1') (q2') (q3') (cp') (so') (ki') (nu') (no') (sp') hn sl ah he fr ou tol bx rws ma dpd isl inn atk (g'))) ∧ ∀ p, p ≤ n → p ≠ q1 → p ≠ q2 → p ≠ q3 → g' p = g p) ∧ NW n m no so ki nu R fl s v x q1' q2' q3' cp' so' ki' nu' no' sp' fl' n' m' := by
  have h4 : q1 ≠ 0 ∧ q2 ≠ 0 ∧ q3 ≠ 0 := ⟨by omega, by omega, by omega⟩
  obtain ⟨r1, r2, r3, r4⟩ := hR
  by_cases h : sp = 0
  · have hfl : fl = [] := by
      cases fl with
      | nil => rfl
      | cons x r => exact absurd (r4.1.symm.trans h) r4.2.1
    subst hfl
    have hz : rF (f_cx no) R = 0 := by
      have := r3 no
      simp only [List.count_nil, Nat.add_zero] at this
      omega
    by_cases h5 : no < cp
    · refine ⟨no, q1, q2, q3, cp, upN so no s, ki0 ki no, upN nu no v, no + 1, sp, [], n, m, fun g => ⟨g, m_nodeN hq s v h h5 hc h4, fun _ _ _ _ _ => rfl⟩, ⟨⟨hq, hq17⟩, hN, by omega, by omega⟩, ⟨hc, by omega, by omega, by omega, by omega⟩, ⟨hz, rfl, h1, by omega⟩, ⟨upN_s _ _ _, upN_s _ _ _, fun i hi => ki0_s hi⟩, fun z hz1 hz2 => ⟨upN_n _ _ hz1, upN_n _ _ hz1, fun i hi => ki0_n hi hz1⟩, h, fun z _ => rfl⟩
    · have h6 : no = cp := by omega
      obtain ⟨e1, e2, e3, e4⟩ := hN
      have hq' : OKq (n + 1) (n + 2) (n + 3) := ⟨⟨by omega, by omega, by omega⟩, fun p hp => by
        simp only [List.mem_cons, List.not_mem_nil, or_false] at hp
        omega⟩
      refine ⟨no, n + 1, n + 2, n + 3, 2 * no, upN (cpN 0 so no) no s, ki0 (cpN 0 ki (8 * no)) no, upN (cpN (lN 0) nu no) no v, no + 1, sp, [], n + 3, m + 2 * no + 8 * (2 * no) + 2 * no, fun g => m_nodeG s v hq ⟨e1, e2, e3, e4⟩ hc h h6 h3 h1, ⟨⟨hq', by omega, by omega, by omega⟩, ⟨by omega, by omega, by omega, by omega⟩, by omega, by omega⟩, ⟨by omega, by omega, by omega, by omega, by omega⟩, ⟨hz, rfl, h1, by omega⟩, ⟨upN_s _ _ _, upN_s _ _ _, fun i hi => ki0_s hi⟩, fun z hz1 hz2 => ⟨?_, ?_, fun i hi => ?_⟩, h, fun z _ => rfl⟩
      · rw [upN_n _ _ hz1]; unfold cpN; rw [if_pos hz2]
      · rw [upN_n _ _ hz1]; unfold cpN; rw [if_pos hz2]
      · rw [ki0_n hi hz1]; unfold cpN; rw [if_pos (by omega)]
  · cases fl with
    | nil => exact absurd r4 h
    | cons x r =>
      obtain ⟨rfl, hx0, hr⟩ := r4
      have c1 := r2 sp
      have c2 := r3 sp
      rw [List.count_cons_self] at c1 c2
      have c3 := c2 (by omega)
      have hin : ∀ z, z ∈ r → z ≠ sp := fun z hz e => by
        subst e
        have := List.count_pos_iff.mpr hz
        omega
      refine ⟨sp, q1, q2, q3, cp, upN so sp s, ki0 ki sp, upN nu sp v, no, ki (8 * sp), r, n, m, fun g => ⟨g, m_nodeS hq s v h (by omega) hc h4, fun _ _ _ _ _ => rfl⟩, ⟨⟨hq, hq17⟩, hN, by omega, by omega⟩, ⟨hc, by omega, by omega, by omega, by omega⟩, ⟨by omega, by omega, by omega, by omega⟩, ⟨upN_s _ _ _, upN_s _ _ _, fun i hi => ki0_s hi⟩, fun z hz1 hz2 => ⟨upN_n _ _ hz1, upN_n _ _ hz1, fun i hi => ki0_n hi hz1⟩, fr_keep hr (fun z hz => by have := ki0_n (ki := ki) (i := 0) (by omega) (hin z hz); simpa using this), fun z hz => ?_⟩
      rw [List.count_cons_of_ne (Ne.symm hz)]
/-- kids taken from the hand -/
def kiW (ki : Nat → Nat) (x : Nat) (hn : Nat → Nat) (b k : Nat) : Nat → Nat := fun p => if 8 * x ≤ p ∧ p < 8 * x + k then hn (b + (p - 8 * x)) else ki p
theorem kiW_0 (ki : Nat → Nat) (x : Nat) (hn : Nat → Nat) (b : Nat) : kiW ki x hn b 0 = ki := by
  funext p
  unfold kiW
  rw [if_neg (by omega)]
theorem kiW_s (ki : Nat → Nat) (x : Nat) (hn : Nat → Nat) (b k : Nat) : upN (kiW ki x hn b k) (8 * x + k) (hn (b + k)) = kiW ki x hn b (k + 1) := by
  funext p
  unfold kiW upN
  by_cases h : p = 8 * x + k
  · subst h
    rw [if_pos rfl, if_pos (by omega), show 8 * x + k - 8 * x = k by omega]
  · rw [if_neg h]
    dsimp only
    by_cases h2 : 8 * x ≤ p ∧ p < 8 * x + k
    · rw [if_pos h2, if_pos (by omega)]
    · rw [if_neg h2, if_neg (by omega)]
theorem m_wrapL {sh : Nat} {kd kz : Nat → Nat} {ko : Nat → Int32} {q1 q2 q3 cp : Nat} {so ki : Nat → Nat} {nu : Nat → Int64} {no sp : Nat} {hn sl ah : Nat → Nat} {he fr : Nat} {ou : Nat → Int64} {tol bx rws ma dpd isl inn atk : Nat} {g : Nat → Option am_E} {n m d s x k : Nat} {v : Int64} (hq : OKq q1 q2 q3) (hc : cp < 100000) (hx : x < cp) (hk : k ≤ he) (hk8 : k ≤ 8) (he24 : he ≤ 24) (h3 : q2 ≠ 0) : ∀ (c j : Nat), j + c = k → am_X (ev d) B5_wrap_0 (B5_wrap_11, [some (.ref 18), some (.int (nI s)), some (.long v), none, some (.int (nI k)), some (.int (nI x)), some (.int (nI j))], [], (n, m, RO sh kd kz ko q1 q2 q3 cp so (kiW ki x hn (he - k) j) nu no sp hn sl ah he fr ou tol bx rws ma dpd isl inn atk g)) = am_X (ev d) B5_wrap_0 (B5_wrap_52, [some (.ref 18), some (.int (nI s)), some (.long v), none, some (.int (nI k)), some (.int (nI x)), some (.int (nI k))], [], (n, m, RO sh kd kz ko q1 q2 q3 cp so (kiW ki x hn (he - k) k) nu no sp hn sl ah he fr ou tol bx rws ma dpd isl inn atk g)) := by
  intro c
  induction c with
  | zero =>
    intro j hj
    obtain rfl : j = k := by omega
    conv => lhs; rw [uB5_wrap_11]
    simp (disch := first | exact q_two_i _ | exact q_two_r _ | exact q_two_n | exact q_sh0 | exact q_sh1 _ | exact q_sh2 _ _ | exact q_sh3 _ _ _ | exact q_sh4 _ _ _ _ | exact c_cl_5 hq | exact c_tc_5_3 _ | exact c_tc_5_7 _ | exact c_tc_5_8 _ | exact c_tc_5_12 _ | exact c_tc_5_13 _ | exact c_tc_5_15 _ | exact c_tc_5_16 _ | exact c_tc_5_17 _ | exact c_tc_5_18 _ | exact c_tc_5_19 _ | exact c_tc_5_21 _ | exact c_tc_5_22 _ | exact c_tc_5_20a | exact c_tc_5_20b | exact z_01 | exact z_11 | exact nz_24 | exact nz_16 | assumption | omega) only [x_aload_0, x_iload_1, x_lload_2, x_iv_2, x_kx1, x_kx0, x_istore_5, x_iconst, x_istore_6, x_iload_6, x_iload_4, x_ic_ge, x_getf, c_gf_5_5, x_bipush, x_iload_5, x_imul, x_iadd, c_gf_5_9, c_gf_5_12, x_isub, x_iaload, x_iastore, x_iinc_6, x_goto, x_dup_int, x_dup_ref, x_putf, c_pf_5_12, x_iv_1, x_ret_i, jB5_wrap_11, jB5_wrap_52, n_0, n_1, n_2, n_3, n_4, n_5, n_6, n_7, n_8, n_9, n_10, n_12, n_13, n_15, n_16, n_20, n_24, n_60, n_64, n_72, n_96, n_192, n_256, n_400, n_808, n_960, n_1440, n_2048, n_2720, n_16777215, n_1000000, l_0, l_1, l_8, l_20, l_60, l_lt_t, l_lt_f, l_ge_t, l_ge_f, l_eq_t, l_eq_f, lN_i, nI_l, i_lt_t, i_lt_f, i_le_t, i_le_f, i_eq_t, i_eq_f, ↓n_m1, ↓n_m2, i_m1, i_m1s, i_m1lt, i_m1le, i_m1l2, i_m1l3, i_mm, nI_add, pk_mul, i_sub, i_dec, i_dec0, i_s01, i_div, Nat.reduceAdd, Nat.reduceSub, Nat.reduceMul, Nat.zero_add, if_true, if_false, not_true, not_false_eq_true, ↓reduceIte, hq]
  | succ c ih' =>
    intro j hj
    rw [← ih' (j + 1) (by omega), ← kiW_s]
    conv => lhs; rw [uB5_wrap_11]
    simp (disch := first | exact q_two_i _ | exact q_two_r _ | exact q_two_n | exact q_sh0 | exact q_sh1 _ | exact q_sh2 _ _ | exact q_sh3 _ _ _ | exact q_sh4 _ _ _ _ | exact c_cl_5 hq | exact c_tc_5_3 _ | exact c_tc_5_7 _ | exact c_tc_5_8 _ | exact c_tc_5_12 _ | exact c_tc_5_13 _ | exact c_tc_5_15 _ | exact c_tc_5_16 _ | exact c_tc_5_17 _ | exact c_tc_5_18 _ | exact c_tc_5_19 _ | exact c_tc_5_21 _ | exact c_tc_5_22 _ | exact c_tc_5_20a | exact c_tc_5_20b | exact z_01 | exact z_11 | exact nz_24 | exact nz_16 | assumption | omega) only [x_aload_0, x_iload_1, x_lload_2, x_iv_2, x_kx1, x_kx0, x_istore_5, x_iconst, x_istore_6, x_iload_6, x_iload_4, x_ic_ge, x_getf, c_gf_5_5, x_bipush, x_iload_5, x_imul, x_iadd, c_gf_5_9, c_gf_5_12, x_isub, x_iaload, x_iastore, x_iinc_6, x_goto, x_dup_int, x_dup_ref, x_putf, c_pf_5_12, x_iv_1, x_ret_i, jB5_wrap_11, jB5_wrap_52, n_0, n_1, n_2, n_3, n_4, n_5, n_6, n_7, n_8, n_9, n_10, n_12, n_13, n_15, n_16, n_20, n_24, n_60, n_64, n_72, n_96, n_192, n_256, n_400, n_808, n_960, n_1440, n_2048, n_2720, n_16777215, n_1000000, l_0, l_1, l_8, l_20, l_60, l_lt_t, l_lt_f, l_ge_t, l_ge_f, l_eq_t, l_eq_f, lN_i, nI_l, i_lt_t, i_lt_f, i_le_t, i_le_f, i_eq_t, i_eq_f, ↓n_m1, ↓n_m2, i_m1, i_m1s, i_m1lt, i_m1le, i_m1l2, i_m1l3, i_mm, nI_add, pk_mul, i_sub, i_dec, i_dec0, i_s01, i_div, Nat.reduceAdd, Nat.reduceSub, Nat.reduceMul, Nat.zero_add, if_true, if_false, not_true, not_false_eq_true, ↓reduceIte, hq, c_g_25, c_p_q2]
theorem m_wrap {sh : Nat} {kd kz : Nat → Nat} {ko : Nat → Int32} {q1 q2 q3 cp : Nat} {so ki : Nat → Nat} {nu : Nat → Int64} {no sp : Nat} {hn sl ah : Nat → Nat} {he fr : Nat} {ou : Nat → Int64} {tol bx rws ma dpd isl inn atk : Nat} {n m d : Nat} {R : Nat → Fo} {fl : List Nat} (s : Nat) (v : Int64) (k : Nat) (hq : OKq q1 q2 q3) (hq17 : 17 < q1 ∧ 17 < q2 ∧ 17 < q3) (hN : NQ n q1 q2 q3) (hR : IR1 so ki nu no sp R fl) (hc : cp < 100000) (h1 : 1 ≤ no) (h2 : no ≤ cp) (h3 : no ≤ 10000) (hk : k ≤ he) (hk8 : k ≤ 8) (he24 : he ≤ 24) (hk0 : he - k < 24) : ∃ x q1' q2' q3' cp' so' ki' nu' no' sp' fl' n' m', (∀ g, ∃ g', ev (d + 3) 128 [.ref 18, .int (nI s), .long v, .int (nI k)] (n, m, RO sh kd kz ko q1 q2 q3 cp so ki nu no sp hn sl ah he fr ou tol bx rws ma dpd isl inn atk g) = some (some (.int (nI 1)), (n', m', RO sh kd kz ko (q1') (q2') (q3') (cp') (so') (kiW ki' x hn (he - k) k) (nu') (no') (sp') (upN hn (he - k) x) sl ah (he - k + 1) fr ou tol bx rws ma dpd isl inn atk (g'))) ∧ ∀ p, p ≤ n → p ≠ q1 → p ≠ q2 → p ≠ q3 → g' p = g p) ∧ NW n m no so ki nu R fl s v x q1' q2' q3' cp' so' ki' nu' no' sp' fl' n' m' := by
  obtain ⟨x, q1', q2', q3', cp', so', ki', nu', no', sp', fl', n', m', e, hW⟩ := m_new (sh := sh) (kd := kd) (kz := kz) (ko := ko) (q1 := q1) (q2 := q2) (q3 := q3) (cp := cp) (so := so) (ki := ki) (nu := nu) (no := no) (sp := sp) (hn := hn) (sl := sl) (ah := ah) (he := he) (fr := fr) (ou := ou) (tol := tol) (bx := bx) (rws := rws) (ma := ma) (dpd := dpd) (isl := isl) (inn := inn) (atk := atk) (n := n) (m := m) (d := d) s v hq hq17 hN hR hc h1 h2 h3
  refine ⟨x, q1', q2', q3', cp', so', ki', nu', no', sp', fl', n', m', fun g => ?_, hW⟩
  obtain ⟨g', e1, e2⟩ := e g
  refine ⟨g', ?_, e2⟩
  obtain ⟨⟨⟨hq', hq17'⟩, -, -, -⟩, ⟨w1, w2, w3, w4, w5⟩, ⟨-, -, w6, w7⟩, -⟩ := hW
  have e3 := m_wrapL (sh := sh) (kd := kd) (kz := kz) (ko := ko) (q1 := q1') (q2 := q2') (q3 := q3') (cp := cp') (so := so') (ki := ki') (nu := nu') (no := no') (sp := sp') (hn := hn) (sl := sl) (ah := ah) (he := he) (fr := fr) (ou := ou) (tol := tol) (bx := bx) (rws := rws) (ma := ma) (dpd := dpd) (isl := isl) (inn := inn) (atk := atk) (g := g') (n := n') (m := m') (d := d + 2) (s := s) (x := x) (k := k) (v := v) hq' w1 (by omega) hk hk8 he24 (by omega) k 0 (by omega)
  rw [kiW_0] at e3
  have e4 : ev (d + 3) 128 [.ref 18, .int (nI s), .long v, .int (nI k)] (n, m, RO sh kd kz ko q1 q2 q3 cp so ki nu no sp hn sl ah he fr ou tol bx rws ma dpd isl inn atk g) = am_X (ev (d + 2)) B5_wrap_0 (B5_wrap_11, [some (.ref 18), some (.int (nI s)), some (.long v), none, some (.int (nI k)), some (.int (nI x)), some (.int (nI 0))], [], (n', m', RO sh kd kz ko (q1') (q2') (q3') (cp') (so') (ki') (nu') (no') (sp') hn sl ah he fr ou tol bx rws ma dpd isl inn atk (g'))) := by
    simp (disch := first | exact q_two_i _ | exact q_two_r _ | exact q_two_n | exact q_sh0 | exact q_sh1 _ | exact q_sh2 _ _ | exact q_sh3 _ _ _ | exact q_sh4 _ _ _ _ | exact c_cl_5 hq | exact c_tc_5_3 _ | exact c_tc_5_7 _ | exact c_tc_5_8 _ | exact c_tc_5_12 _ | exact c_tc_5_13 _ | exact c_tc_5_15 _ | exact c_tc_5_16 _ | exact c_tc_5_17 _ | exact c_tc_5_18 _ | exact c_tc_5_19 _ | exact c_tc_5_21 _ | exact c_tc_5_22 _ | exact c_tc_5_20a | exact c_tc_5_20b | exact z_01 | exact z_11 | exact nz_24 | exact nz_16 | assumption | omega) only [eB5_wrap, x_aload_0, x_iload_1, x_lload_2, x_iv_2, x_kx1, x_kx0, x_istore_5, x_iconst, x_istore_6, x_iload_6, x_iload_4, x_ic_ge, x_getf, c_gf_5_5, x_bipush, x_iload_5, x_imul, x_iadd, c_gf_5_9, c_gf_5_12, x_isub, x_iaload, x_iastore, x_iinc_6, x_goto, x_dup_int, x_dup_ref, x_putf, c_pf_5_12, x_iv_1, x_ret_i, jB5_wrap_11, jB5_wrap_52, uB5_wrap_0, n_0, n_1, n_2, n_3, n_4, n_5, n_6, n_7, n_8, n_9, n_10, n_12, n_13, n_15, n_16, n_20, n_24, n_60, n_64, n_72, n_96, n_192, n_256, n_400, n_808, n_960, n_1440, n_2048, n_2720, n_16777215, n_1000000, l_0, l_1, l_8, l_20, l_60, l_lt_t, l_lt_f, l_ge_t, l_ge_f, l_eq_t, l_eq_f, lN_i, nI_l, i_lt_t, i_lt_f, i_le_t, i_le_f, i_eq_t, i_eq_f, ↓n_m1, ↓n_m2, i_m1, i_m1s, i_m1lt, i_m1le, i_m1l2, i_m1l3, i_mm, nI_add, pk_mul, i_sub, i_dec, i_dec0, i_s01, i_div, Nat.reduceAdd, Nat.reduceSub, Nat.reduceMul, Nat.zero_add, if_true, if_false, not_true, not_false_eq_true, ↓reduceIte, hq, e1]
  rw [e4, e3, uB5_wrap_52]
  clear e4 e3 e2 e1 e
  have hq := hq'
  simp (disch := first | exact q_two_i _ | exact q_two_r _ | exact q_two_n | exact q_sh0 | exact q_sh1 _ | exact q_sh2 _ _ | exact q_sh3 _ _ _ | exact q_sh4 _ _ _ _ | exact c_cl_5 hq | exact c_tc_5_3 _ | exact c_tc_5_7 _ | exact c_tc_5_8 _ | exact c_tc_5_12 _ | exact c_tc_5_13 _ | exact c_tc_5_15 _ | exact c_tc_5_16 _ | exact c_tc_5_17 _ | exact c_tc_5_18 _ | exact c_tc_5_19 _ | exact c_tc_5_21 _ | exact c_tc_5_22 _ | exact c_tc_5_20a | exact c_tc_5_20b | exact z_01 | exact z_11 | exact nz_24 | exact nz_16 | assumption | omega) only [x_aload_0, x_iload_1, x_lload_2, x_iv_2, x_kx1, x_kx0, x_istore_5, x_iconst, x_istore_6, x_iload_6, x_iload_4, x_ic_ge, x_getf, c_gf_5_5, x_bipush, x_iload_5, x_imul, x_iadd, c_gf_5_9, c_gf_5_12, x_isub, x_iaload, x_iastore, x_iinc_6, x_goto, x_dup_int, x_dup_ref, x_putf, c_pf_5_12, x_iv_1, x_ret_i, jB5_wrap_11, jB5_wrap_52, n_0, n_1, n_2, n_3, n_4, n_5, n_6, n_7, n_8, n_9, n_10, n_12, n_13, n_15, n_16, n_20, n_24, n_60, n_64, n_72, n_96, n_192, n_256, n_400, n_808, n_960, n_1440, n_2048, n_2720, n_16777215, n_1000000, l_0, l_1, l_8, l_20, l_60, l_lt_t, l_lt_f, l_ge_t, l_ge_f, l_eq_t, l_eq_f, lN_i, nI_l, i_lt_t, i_lt_f, i_le_t, i_le_f, i_eq_t, i_eq_f, ↓n_m1, ↓n_m2, i_m1, i_m1s, i_m1lt, i_m1le, i_m1l2, i_m1l3, i_mm, nI_add, pk_mul, i_sub, i_dec, i_dec0, i_s01, i_div, Nat.reduceAdd, Nat.reduceSub, Nat.reduceMul, Nat.zero_add, if_true, if_false, not_true, not_false_eq_true, ↓reduceIte, hq, m_comes]
theorem f_row_len {R : Nat → Fo} : ∀ (k b : Nat), (∀ r, b ≤ r → r < b + k → f_len (R r) = 1) → f_len (f_row R b k) = k
  | 0, _, _ => rfl
  | k + 1, b, h => by
    simp only [f_row, f_app_len]
    rw [h b (by omega) (by omega), f_row_len k (b + 1) (fun r h1 h2 => h r (by omega) (by omega))]; omega
theorem f_row_rt {R : Nat → Fo} : ∀ (k b i : Nat), (∀ r, b ≤ r → r < b + k → f_len (R r) = 1) → f_rt (f_row R b k) i = if i < k then f_rt (R (b + i)) 0 else 0
  | 0, _, i, _ => by simp [f_row, f_rt]
  | k + 1, b, i, h => by
    simp only [f_row, f_app_rt]
    rw [h b (by omega) (by omega)]
    cases i with
    | zero => simp
    | succ i =>
      rw [if_neg (by omega), show i + 1 - 1 = i by omega, f_row_rt k (b + 1) i (fun r h1 h2 => h r (by omega) (by omega)), show b + 1 + i = b + (i + 1) by omega]
      simp only [Nat.add_lt_add_iff_right]
theorem f_row_sh {R : Nat → Fo} : ∀ (k b i : Nat), (∀ r, b ≤ r → r < b + k → f_len (R r) = 1) → i < k → f_sh (f_row R b k) i = f_sh (R (b + i)) 0
  | 0, _, i, _, hi => by omega
  | k + 1, b, i, h, hi => by
    simp only [f_row, f_app_sh]
    rw [h b (by omega) (by omega)]
    cases i with
    | zero => simp
    | succ i =>
      rw [if_neg (by omega), show i + 1 - 1 = i by omega, f_row_sh k (b + 1) i (fun r h1 h2 => h r (by omega) (by omega)) (by omega), show b + 1 + i = b + (i + 1) by omega]
theorem f_row_T {kn : Nat} {ks : Nat → Nat} {ps : Nat → Int32} {R : Nat → Fo} (h : IT kn ks ps R) : ∀ (k b : Nat), b + k ≤ 120 → f_okT kn ks ps (f_row R b k)
  | 0, _, _ => trivial
  | k + 1, b, hb => (f_app_T _ _).mpr ⟨(h b (by omega)).2, f_row_T h k (b + 1) (by omega)⟩
/-- wrap() by the invariant -/
theorem NW_I {n m no sp : Nat} {so ki : Nat → Nat} {nu : Nat → Int64} {R : Nat → Fo} {fl : List Nat} {s : Nat} {v : Int64} {x q1 q2 q3 cp : Nat} {so' ki' : Nat → Nat} {nu' : Nat → Int64} {no' sp' : Nat} {fl' : List Nat} {n' m' : Nat} (h : NW n m no so ki nu R fl s v x q1 q2 q3 cp so' ki' nu' no' sp' fl' n' m') (hR : IR1 so ki nu no sp R fl) {b k ih : Nat} {hn : Nat → Nat} (hb : b + k = ih) (h24 : ih ≤ 24) (hk8 : k ≤ 8) (hb2 : b < 24) (h1 : ∀ r, r < 24 → (f_len (R r) = 1 ↔ r < ih)) (hT : ∀ r, r < 120 → f_len (R r) ≤ 1) (h2 : ∀ r, r < ih → hn r = f_rt (R r) 0) (j : Nat) : IR1 so' (kiW ki' x hn b k) nu' no' sp' (f_wrp R b k s (x, j) v) fl' ∧ f_clr R b k b = .leaf := by
  obtain ⟨-, ⟨-, -, -, w4, -⟩, w5, ⟨w6, w7, w8⟩, w9, w10, w11⟩ := h
  have h0 : f_clr R b k b = .leaf := by
    unfold f_clr
    split
    · rfl
    · have := (not_congr (h1 b hb2)).mpr (by omega)
      have := hT b (by omega)
      exact f_len0 (by omega)
  have hl : ∀ r, b ≤ r → r < b + k → f_len (R r) = 1 := fun r h3 h4 => (h1 r (by omega)).mpr (by omega)
  refine ⟨IR1_wrp hR (by omega) (by omega) h0 w5 w4 ⟨w6, w7, fun i hi => ?_⟩ (fun z hz hz2 => ⟨(w9 z hz hz2).1, (w9 z hz hz2).2.1, fun i hi => ?_⟩) (fr_keep w10 (fun z hz => ?_)) w11, h0⟩
  · rw [f_row_rt k b i hl]
    unfold kiW
    by_cases h3 : i < k
    · rw [if_pos (by omega), if_pos h3, show 8 * x + i - 8 * x = i by omega, h2 _ (by omega)]
    · rw [if_neg (by omega), if_neg h3, w8 i hi]
  · unfold kiW
    rw [if_neg (by omega)]
    exact (w9 z hz hz2).2.2 i hi
  · have hzx : z ≠ x := fun e => by
      subst e
      have := List.count_pos_iff.mpr hz
      omega
    unfold kiW
    rw [if_neg (by omega)]
