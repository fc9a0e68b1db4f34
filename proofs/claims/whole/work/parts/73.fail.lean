/-! fail. -/
def fIh (hst : Nat → Nat) : Nat → Nat → Nat
  | 0, ih => ih
  | t + 1, _ => fIh hst t (hst t)
def fS (ks hst : Nat → Nat) : Nat → Nat → (Nat → Fo) → Ot → (Nat → Fo) × Ot
  | 0, _, R, q => (R, q)
  | t + 1, ih, R, q => fS ks hst t (hst t) (f_clr (f_clr R (hst t) (ih - hst t)) (24 + t * 8) 8) (hD ks (f_clr R (hst t) (ih - hst t)) (24 + t * 8) 8 (hD ks R (hst t) (ih - hst t) q))
theorem fIh_0 {hst : Nat → Nat} : ∀ (t ih : Nat), 1 ≤ t → fIh hst t ih = hst 0
  | 1, _, _ => rfl
  | t + 2, ih, _ => by
    show fIh hst (t + 1) (hst (t + 1)) = hst 0
    exact fIh_0 (t + 1) (hst (t + 1)) (by omega)
/-- the frames' starts -/
def fO (hst : Nat → Nat) (t ih : Nat) : Prop := (t ≤ 12 ∧ ih ≤ 24) ∧ (1 ≤ t → hst (t - 1) ≤ ih) ∧ ∀ f, f + 1 < t → hst f ≤ hst (f + 1)
theorem fO_s {hst : Nat → Nat} {t ih : Nat} (h : fO hst (t + 1) ih) : fO hst t (hst t) ∧ hst t ≤ ih := by
  obtain ⟨⟨h1, h2⟩, h3, h4⟩ := h
  have h5 := h3 (by omega)
  rw [Nat.add_sub_cancel] at h5
  refine ⟨⟨⟨by omega, by omega⟩, fun h => ?_, fun f hf => h4 f (by omega)⟩, h5⟩
  have := h4 (t - 1) (by omega)
  rwa [Nat.sub_add_cancel h] at this
theorem fS_p {ks hst : Nat → Nat} : ∀ (t ih : Nat) (R : Nat → Fo) (q : Ot), fO hst t ih → (∀ r, r < 24 → (f_len (R r) = 1 ↔ r < ih)) → (∀ r, 24 + 8 * t ≤ r → r < 120 → R r = .leaf) → (∀ r, r < 24 → (f_len ((fS ks hst t ih R q).1 r) = 1 ↔ r < fIh hst t ih)) ∧ (∀ r, 24 ≤ r → r < 120 → (fS ks hst t ih R q).1 r = .leaf) ∧ rF f_sz (fS ks hst t ih R q).1 ≤ rF f_sz R
  | 0, ih, R, q, h1, h2, h3 => ⟨h2, fun r h4 h5 => h3 r (by omega) h5, Nat.le_refl _⟩
  | t + 1, ih, R, q, h1, h2, h3 => by
    obtain ⟨h4, h5⟩ := fO_s h1
    have h12 := h1.1
    obtain ⟨i1, i2, i3⟩ := fS_p (ks := ks) t (hst t) (f_clr (f_clr R (hst t) (ih - hst t)) (24 + t * 8) 8) (hD ks (f_clr R (hst t) (ih - hst t)) (24 + t * 8) 8 (hD ks R (hst t) (ih - hst t) q)) h4 (fun r hr => by
      rw [r2_h hr]
      by_cases e : hst t ≤ r ∧ r < hst t + (ih - hst t)
      · rw [if_pos e]; simp only [f_len]; omega
      · rw [if_neg e, h2 r hr]; omega) (fun r h6 h7 => by
      rw [r2_s (by omega) (by omega)]
      by_cases e : 24 + t * 8 ≤ r ∧ r < 24 + t * 8 + 8
      · rw [if_pos e]
      · rw [if_neg e]; exact h3 r (by omega) h7)
    exact ⟨i1, i2, Nat.le_trans i3 (r2_sz (by omega) (by omega))⟩
theorem c_flL {kn : Nat} {ks zs : Nat → Nat} {ps : Nat → Int32} {ce : Nat → Int64} {rl hsh hst : Nat → Nat} {tm : Nat} {fa : Int32} {g : Nat → Option am_E} {n m d T : Nat} (hS : s_ok kn ks zs ps) (hk : kn ≤ 24) (hT : T ≤ 12) : ∀ (t i ih : Nat) (bt rt : Nat → Nat) (nb nr : Nat) (ssh : Nat → Int32) (wt : Nat → Nat) (wn : Nat) (R : Nat → Fo) (q : Ot), i + t = T → fO hst t ih → CI kn ks zs ps ce bt rt rl nb nr q.2.1 R → (∀ r, r < ih → nI (hsh r) = s_slot (R r)) → (∀ j, j < 96 → ssh j = s_slot (R (24 + j))) →
    ∃ bt' rt' nb' nr' wt' wn' ssh', am_X (ev (d + 7)) B4_fail_0 (B4_fail_10, [some (.ref 1), some (.int (nI T)), some (.int (nI i))], [], (n, m, CO kn ks zs ps ce bt rt rl nb nr hsh hst ssh ih (t) wt (q.1) wn (q.2.1) (q.2.2) tm fa g)) = am_X (ev (d + 7)) B4_fail_0 (B4_fail_26, [some (.ref 1), some (.int (nI T)), some (.int (nI T))], [], (n, m, CO kn ks zs ps ce (bt') (rt') rl (nb') (nr') hsh hst (ssh') (fIh hst t ih) (0) (wt') ((fS ks hst t ih R q).2.1) (wn') ((fS ks hst t ih R q).2.2.1) ((fS ks hst t ih R q).2.2.2) tm fa g)) ∧ CI kn ks zs ps ce bt' rt' rl nb' nr' (fS ks hst t ih R q).2.2.1 (fS ks hst t ih R q).1 ∧ ∀ j, j < 96 → ssh' j = s_slot ((fS ks hst t ih R q).1 (24 + j)) := by
  intro t
  induction t with
  | zero =>
    intro i ih bt rt nb nr ssh wt wn R q hi hO hCI hlh hls
    obtain rfl : i = T := by omega
    refine ⟨bt, rt, nb, nr, wt, wn, ssh, ?_, hCI, hls⟩
    conv => lhs; rw [uB4_fail_10]
    simp (disch := first | exact q_two_i _ | exact q_two_r _ | exact q_two_n | exact q_sh0 | exact q_sh1 _ | exact q_sh2 _ _ | exact q_sh3 _ _ _ | exact q_sh4 _ _ _ _ | exact c_cl_0 .. | exact c_cl_1 .. | exact c_cl_2 .. | exact c_cl_3 .. | exact c_cl_4 .. | exact c_tc_4_4 _ | exact c_tc_4_5 _ | exact c_tc_3_3 _ | exact c_tc_2_4 _ | exact c_tc_2_5 _ | exact c_tc_1_3 _ | exact c_tc_1_4 _ | exact c_tc_0_4 _ | exact c_tc_0_5 _ | exact c_tc_0_6 _ | exact z_01 | exact z_11 | exact nz_24 | exact nz_16 | assumption | omega) only [x_aload_0, x_getf, c_gf_4_2, x_iv_0, x_kx1, x_kx0, x_istore_1, x_iconst, x_istore_2, x_iload_2, x_iload_1, x_ic_ge, x_iv_1, x_iinc_2, x_goto, x_ret_i, jB4_fail_10, jB4_fail_26, n_0, n_1, n_2, n_3, n_4, n_5, n_6, n_7, n_8, n_9, n_10, n_12, n_13, n_15, n_16, n_20, n_24, n_60, n_64, n_72, n_96, n_192, n_256, n_400, n_808, n_960, n_1440, n_2048, n_2720, n_16777215, n_1000000, l_0, l_1, l_8, l_20, l_60, l_lt_t, l_lt_f, l_ge_t, l_ge_f, l_eq_t, l_eq_f, lN_i, nI_l, i_lt_t, i_lt_f, i_le_t, i_le_f, i_eq_t, i_eq_f, ↓n_m1, ↓n_m2, i_m1, i_m1s, i_m1lt, i_m1le, i_m1l2, i_m1l3, i_mm, nI_add, pk_mul, i_sub, i_dec, i_dec0, i_s01, i_div, Nat.reduceAdd, Nat.reduceSub, Nat.reduceMul, Nat.zero_add, if_true, if_false, not_true, not_false_eq_true, ↓reduceIte, fIh, fS]
  | succ t ih' =>
    intro i ih bt rt nb nr ssh wt wn R q hi hO hCI hlh hls
    obtain ⟨h4, h5⟩ := fO_s hO
    have h12 := hO.1
    obtain ⟨bt1, rt1, nb1, nr1, wt1, wn1, Q, hQ, e1, hCI1⟩ := c_el (kn := kn) (ks := ks) (zs := zs) (ps := ps) (ce := ce) (bt := bt) (rt := rt) (rl := rl) (nb := nb) (nr := nr) (hsh := hsh) (hst := hst) (ssh := ssh) (ih := ih) (th := t + 1) (wt := wt) (os := q.1) (wn := wn) (oc := q.2.1) (dr := q.2.2) (tm := tm) (fa := fa) (g := g) (n := n) (m := m) (d := d) (b0 := hst t) (kp := 0) hS hk h12.2 (by omega) h12.1 (by rw [Nat.add_sub_cancel]) (by omega) (by omega) hCI hlh hls
    simp only [Nat.add_sub_cancel, Nat.sub_zero] at hQ e1 hCI1
    obtain ⟨bt2, rt2, nb2, nr2, wt2, wn2, ssh2, e2, hCI2, hl2⟩ := ih' (i + 1) (hst t) bt1 rt1 nb1 nr1 (sshC mI ssh (t * 8) 8) wt1 wn1 (f_clr (f_clr R (hst t) (ih - hst t)) (24 + t * 8) 8) Q (by omega) h4 hCI1 (fun r hr => by
      rw [r2_h (by omega), if_neg (by omega)]; exact hlh r (by omega)) (fun j hj => by
      rw [r2_s (by omega) (by omega)]
      unfold sshC
      by_cases e : t * 8 ≤ j ∧ j < t * 8 + 8
      · rw [if_pos e, if_pos (by omega)]; rfl
      · rw [if_neg e, if_neg (by omega)]; exact hls j hj)
    have e3 : fS ks hst t (hst t) (f_clr (f_clr R (hst t) (ih - hst t)) (24 + t * 8) 8) Q = fS ks hst (t + 1) ih R q := by rw [hQ]; rfl
    rw [e3] at e2 hCI2 hl2
    refine ⟨bt2, rt2, nb2, nr2, wt2, wn2, ssh2, ?_, hCI2, hl2⟩
    have e4 : fIh hst (t + 1) ih = fIh hst t (hst t) := rfl
    rw [e4, ← e2]
    conv => lhs; rw [uB4_fail_10]
    simp (disch := first | exact q_two_i _ | exact q_two_r _ | exact q_two_n | exact q_sh0 | exact q_sh1 _ | exact q_sh2 _ _ | exact q_sh3 _ _ _ | exact q_sh4 _ _ _ _ | exact c_cl_0 .. | exact c_cl_1 .. | exact c_cl_2 .. | exact c_cl_3 .. | exact c_cl_4 .. | exact c_tc_4_4 _ | exact c_tc_4_5 _ | exact c_tc_3_3 _ | exact c_tc_2_4 _ | exact c_tc_2_5 _ | exact c_tc_1_3 _ | exact c_tc_1_4 _ | exact c_tc_0_4 _ | exact c_tc_0_5 _ | exact c_tc_0_6 _ | exact z_01 | exact z_11 | exact nz_24 | exact nz_16 | assumption | omega) only [x_aload_0, x_getf, c_gf_4_2, x_iv_0, x_kx1, x_kx0, x_istore_1, x_iconst, x_istore_2, x_iload_2, x_iload_1, x_ic_ge, x_iv_1, x_iinc_2, x_goto, x_ret_i, jB4_fail_10, jB4_fail_26, n_0, n_1, n_2, n_3, n_4, n_5, n_6, n_7, n_8, n_9, n_10, n_12, n_13, n_15, n_16, n_20, n_24, n_60, n_64, n_72, n_96, n_192, n_256, n_400, n_808, n_960, n_1440, n_2048, n_2720, n_16777215, n_1000000, l_0, l_1, l_8, l_20, l_60, l_lt_t, l_lt_f, l_ge_t, l_ge_f, l_eq_t, l_eq_f, lN_i, nI_l, i_lt_t, i_lt_f, i_le_t, i_le_f, i_eq_t, i_eq_f, ↓n_m1, ↓n_m2, i_m1, i_m1s, i_m1lt, i_m1le, i_m1l2, i_m1l3, i_mm, nI_add, pk_mul, i_sub, i_dec, i_dec0, i_s01, i_div, Nat.reduceAdd, Nat.reduceSub, Nat.reduceMul, Nat.zero_add, if_true, if_false, not_true, not_false_eq_true, ↓reduceIte, e1]
theorem m_flL {sh : Nat} {kd kz : Nat → Nat} {ko : Nat → Int32} {q1 q2 q3 cp : Nat} {so : Nat → Nat} {nu : Nat → Int64} {no : Nat} {hn ah : Nat → Nat} {ma isl inn atk : Nat} {ps : Nat → Int32} {hst : Nat → Nat} {g : Nat → Option am_E} {n m d T : Nat} (hq : OKq q1 q2 q3) (h17 : 17 < q1 ∧ 17 < q2 ∧ 17 < q3) (hc : cp < 100000) (hS : s_ok sh kd kz ps) (hk : sh ≤ 24) (hK : ∀ i, i < 3 * sh → ko i = ps i) (hno : no ≤ cp) (hT : T ≤ 12) : ∀ (t ih : Nat) (ki : Nat → Nat) (sp : Nat) (sl : Nat → Nat) (bx rws : Nat) (R : Nat → Fo) (fl : List Nat) (q : Ot), t < 12 → fO hst t ih → (∀ f, f < t → ah (f + 1) = hst f) → RI sh kd ps so ki nu no sp bx rws q.2.1 R fl → (∀ r, r < ih → f_len (R r) = 1 ∧ hn r = f_rt (R r) 0) → (∀ j, j < 96 → sl j = f_rt (R (24 + j)) 0) →
    ∃ ki' sp' bx' rws' fl' sl', am_X (ev (d + 517)) B5_fail_0 (B5_fail_9, [some (.ref 18), some (.int (nI T))], [], (n, m, RO sh kd kz ko q1 q2 q3 cp so ki nu no sp hn sl ah (ih) (t + 1) (q.1) (q.2.1) bx rws ma (q.2.2) isl inn atk g)) = some (some (.int (nI T)), (n, m, RO sh kd kz ko q1 q2 q3 cp so (ki') nu no (sp') hn (sl') ah (fIh hst t ih) (1) ((fS kd hst t ih R q).2.1) ((fS kd hst t ih R q).2.2.1) (bx') (rws') ma ((fS kd hst t ih R q).2.2.2) isl inn atk g)) ∧ RI sh kd ps so ki' nu no sp' bx' rws' (fS kd hst t ih R q).2.2.1 (fS kd hst t ih R q).1 fl' ∧ ∀ j, j < 96 → sl' j = f_rt ((fS kd hst t ih R q).1 (24 + j)) 0 := by
  intro t
  induction t with
  | zero =>
    intro ih ki sp sl bx rws R fl q ht hO hah hRI hlh hls
    refine ⟨ki, sp, bx, rws, fl, sl, ?_, hRI, hls⟩
    rw [uB5_fail_9]
    simp (disch := first | exact q_two_i _ | exact q_two_r _ | exact q_two_n | exact q_sh0 | exact q_sh1 _ | exact q_sh2 _ _ | exact q_sh3 _ _ _ | exact q_sh4 _ _ _ _ | exact c_cl_5 hq | exact c_tc_5_3 _ | exact c_tc_5_7 _ | exact c_tc_5_8 _ | exact c_tc_5_12 _ | exact c_tc_5_13 _ | exact c_tc_5_15 _ | exact c_tc_5_16 _ | exact c_tc_5_17 _ | exact c_tc_5_18 _ | exact c_tc_5_19 _ | exact c_tc_5_21 _ | exact c_tc_5_22 _ | exact c_tc_5_20a | exact c_tc_5_20b | exact z_01 | exact z_11 | exact nz_24 | exact nz_16 | assumption | omega) only [x_aload_0, x_getf, c_gf_5_13, x_istore_1, x_iv_0, x_kx1, x_kx0, x_iconst, x_ic_le, x_dup_int, x_dup_ref, x_isub, x_putf, c_pf_5_13, x_goto, x_iload_1, x_ret_i, jB5_fail_9, jB5_fail_34, uB5_fail_34, n_0, n_1, n_2, n_3, n_4, n_5, n_6, n_7, n_8, n_9, n_10, n_12, n_13, n_15, n_16, n_20, n_24, n_60, n_64, n_72, n_96, n_192, n_256, n_400, n_808, n_960, n_1440, n_2048, n_2720, n_16777215, n_1000000, l_0, l_1, l_8, l_20, l_60, l_lt_t, l_lt_f, l_ge_t, l_ge_f, l_eq_t, l_eq_f, lN_i, nI_l, i_lt_t, i_lt_f, i_le_t, i_le_f, i_eq_t, i_eq_f, ↓n_m1, ↓n_m2, i_m1, i_m1s, i_m1lt, i_m1le, i_m1l2, i_m1l3, i_mm, nI_add, pk_mul, i_sub, i_dec, i_dec0, i_s01, i_div, Nat.reduceAdd, Nat.reduceSub, Nat.reduceMul, Nat.zero_add, if_true, if_false, not_true, not_false_eq_true, ↓reduceIte, hq, fIh, fS]
  | succ t ih' =>
    intro ih ki sp sl bx rws R fl q ht hO hah hRI hlh hls
    obtain ⟨h4, h5⟩ := fO_s hO
    have h12 := hO.1
    obtain ⟨ki1, sp1, bx1, rws1, fl1, Q, hQ, e1, hRI1⟩ := m_em (sh := sh) (kd := kd) (kz := kz) (ko := ko) (q1 := q1) (q2 := q2) (q3 := q3) (cp := cp) (so := so) (ki := ki) (nu := nu) (no := no) (sp := sp) (hn := hn) (sl := sl) (ah := ah) (fr := t + 1) (ou := q.1) (tol := q.2.1) (bx := bx) (rws := rws) (ma := ma) (dpd := q.2.2) (isl := isl) (inn := inn) (atk := atk) (g := g) (n := n) (m := m) (d := d) (b := hst t) (k := ih - hst t) (f := t) hq h17 hc hS hk hK hno (by omega) rfl (hah t (by omega)) (by omega) hRI (fun r _ hr => hlh r (by omega)) hls
    rw [show hst t + (ih - hst t) = ih by omega] at e1
    obtain ⟨ki2, sp2, bx2, rws2, fl2, sl2, e2, hRI2, hl2⟩ := ih' (hst t) ki1 sp1 (sshC 0 sl (t * 8) 8) bx1 rws1 (f_clr (f_clr R (hst t) (ih - hst t)) (24 + t * 8) 8) fl1 Q (by omega) h4 (fun f hf => hah f (by omega)) hRI1 (fun r hr => by
      rw [r2_h (by omega), if_neg (by omega)]; exact hlh r (by omega)) (fun j hj => by
      rw [r2_s (by omega) (by omega)]
      unfold sshC
      by_cases e : t * 8 ≤ j ∧ j < t * 8 + 8
      · rw [if_pos e, if_pos (by omega)]; rfl
      · rw [if_neg e, if_neg (by omega)]; exact hls j hj)
    have e3 : fS kd hst t (hst t) (f_clr (f_clr R (hst t) (ih - hst t)) (24 + t * 8) 8) Q = fS kd hst (t + 1) ih R q := by rw [hQ]; rfl
    rw [e3] at e2 hRI2 hl2
    refine ⟨ki2, sp2, bx2, rws2, fl2, sl2, ?_, hRI2, hl2⟩
    have e4 : fIh hst (t + 1) ih = fIh hst t (hst t) := rfl
    have e5 : t + 1 + 1 - 1 = t + 1 := by omega
    rw [e4, ← e2]
    conv => lhs; rw [uB5_fail_9]
    simp (disch := first | exact q_two_i _ | exact q_two_r _ | exact q_two_n | exact q_sh0 | exact q_sh1 _ | exact q_sh2 _ _ | exact q_sh3 _ _ _ | exact q_sh4 _ _ _ _ | exact c_cl_5 hq | exact c_tc_5_3 _ | exact c_tc_5_7 _ | exact c_tc_5_8 _ | exact c_tc_5_12 _ | exact c_tc_5_13 _ | exact c_tc_5_15 _ | exact c_tc_5_16 _ | exact c_tc_5_17 _ | exact c_tc_5_18 _ | exact c_tc_5_19 _ | exact c_tc_5_21 _ | exact c_tc_5_22 _ | exact c_tc_5_20a | exact c_tc_5_20b | exact z_01 | exact z_11 | exact nz_24 | exact nz_16 | assumption | omega) only [x_aload_0, x_getf, c_gf_5_13, x_istore_1, x_iv_0, x_kx1, x_kx0, x_iconst, x_ic_le, x_dup_int, x_dup_ref, x_isub, x_putf, c_pf_5_13, x_goto, x_iload_1, x_ret_i, jB5_fail_9, jB5_fail_34, uB5_fail_34, n_0, n_1, n_2, n_3, n_4, n_5, n_6, n_7, n_8, n_9, n_10, n_12, n_13, n_15, n_16, n_20, n_24, n_60, n_64, n_72, n_96, n_192, n_256, n_400, n_808, n_960, n_1440, n_2048, n_2720, n_16777215, n_1000000, l_0, l_1, l_8, l_20, l_60, l_lt_t, l_lt_f, l_ge_t, l_ge_f, l_eq_t, l_eq_f, lN_i, nI_l, i_lt_t, i_lt_f, i_le_t, i_le_f, i_eq_t, i_eq_f, ↓n_m1, ↓n_m2, i_m1, i_m1s, i_m1lt, i_m1le, i_m1l2, i_m1l3, i_mm, nI_add, pk_mul, i_sub, i_dec, i_dec0, i_s01, i_div, Nat.reduceAdd, Nat.reduceSub, Nat.reduceMul, Nat.zero_add, if_true, if_false, not_true, not_false_eq_true, ↓reduceIte, hq, e5, e1]
theorem s_fail {e0 : Option am_E} {d c n m : Nat} {kn : Nat} {ks zs : Nat → Nat} {ps : Nat → Int32} {ce : Nat → Int64} {bt rt rl : Nat → Nat} {nb nr : Nat} {hsh hst : Nat → Nat} {ssh : Nat → Int32} {ih th : Nat} {wt : Nat → Nat} {os : Nat → Int64} {wn oc dr tm : Nat} {fa : Int32} {ko : Nat → Int32} {q1 q2 q3 cp : Nat} {so ki : Nat → Nat} {nu : Nat → Int64} {no sp : Nat} {hn sl ah : Nat → Nat} {isl inn atk : Nat} {g : Nat → Option am_E} {R : Nat → Fo} {fl : List Nat} (hI : ST c kn ks zs ps ce bt rt rl nb nr hsh hst ssh ih th oc ko q1 q2 q3 cp so ki nu no sp hn sl ah R fl) (hN : NQ n q1 q2 q3) (hg : g 0 = e0) (hB : n ≤ 28 + 3 * c ∧ m ≤ 20000 + 10260 * c) (hc5 : c < 512) : SS e0 (d + 600) 79 143 [] c (n, m, CO kn ks zs ps ce bt rt rl nb nr hsh hst ssh ih th wt os wn oc dr tm fa (RO kn ks zs ko q1 q2 q3 cp so ki nu no sp hn sl ah ih th os oc nb nr tm dr isl inn atk g)) := by
  obtain ⟨⟨hS, hk⟩, hK, hF, hT, hL, hC, hR, hO, hBd, ⟨hq, hq17⟩, hcp⟩ := id hI
  have hB1 : n ≤ 28 + 3 * (c + 1) ∧ m ≤ 20000 + 10260 * (c + 1) := ⟨by omega, by omega⟩
  obtain ⟨⟨f1, f2⟩, f3, f4, f5, f6, f7⟩ := id hF
  obtain ⟨b0, hb0⟩ : ∃ b0, hst (th - 1) = b0 := ⟨_, rfl⟩
  have hb3 : b0 ≤ ih := by rw [← hb0]; exact f6
  have ha0 : ah th = b0 := by rw [← hb0, ← f7 (th - 1) (by omega), Nat.sub_add_cancel f1]
  have hb4 : ah th ≤ ih := by rw [ha0]; exact hb3
  have f0 : 0 < th := f1
  have f13 : th < 13 := by omega
  have hcp1 := hcp.1
  have hlh : ∀ r, r < ih → nI (hsh r) = s_slot (R r) ∧ (f_len (R r) = 1 ∧ hn r = f_rt (R r) 0) := fun r hr => by
    obtain ⟨s1, x1, j1, v1, K1, a1, ⟨a2, a3⟩, -⟩ := h_top hI hr
    rw [a1, a2, a3]
    exact ⟨rfl, rfl, rfl⟩
  have hls := fun j hj => (hL.2.2.2 j hj).1
  have hlr := fun j hj => (hL.2.2.2 j hj).2
  rcases ST_CR hI with ⟨hCI, hRI⟩ | h
  rotate_left
  · omega
  obtain ⟨G0, hG0⟩ : ∃ G0, RO kn ks zs ko q1 q2 q3 cp so ki nu no sp hn sl ah ih th os oc nb nr tm dr isl inn atk g = G0 := ⟨_, rfl⟩
  have hfO : fO hst th ih := ⟨⟨f2, f3⟩, fun _ => f6, f5⟩
  obtain ⟨f, hf⟩ : ∃ f, th = f + 1 := ⟨th - 1, by omega⟩
  subst hf
  obtain ⟨bt', rt', nb', nr', wt', wn', ssh', e1, hCI', hl1⟩ := c_flL (kn := kn) (ks := ks) (zs := zs) (ps := ps) (ce := ce) (rl := rl) (hsh := hsh) (hst := hst) (tm := tm) (fa := fa) (g := G0) (n := n) (m := m) (d := d + 592) (T := f + 1) hS hk f2 (f + 1) 0 ih bt rt nb nr ssh wt wn R (os, oc, dr) (by omega) hfO hCI (fun r hr => (hlh r hr).1) hls
  dsimp only at e1
  obtain ⟨q1p, q2p, q3p⟩ := fS_p (ks := ks) (f + 1) ih R (os, oc, dr) hfO hL.1 hL.2.1
  obtain ⟨h4, h5⟩ := fO_s hfO
  rw [fIh_0 (f + 1) ih (by omega), f4] at e1 q1p
  obtain ⟨RQ, hRQ⟩ : ∃ RQ, fS ks hst (f + 1) ih R (os, oc, dr) = RQ := ⟨_, rfl⟩
  rw [hRQ] at e1 hCI' hl1 q1p q2p q3p
  obtain ⟨G1, hG1⟩ : ∃ G1, CO kn ks zs ps ce (bt') (rt') rl (nb') (nr') hsh (upN hst 0 0) (ssh') (0) (1) (wt') (RQ.2.1) (wn') (RQ.2.2.1) (RQ.2.2.2) tm fa g = G1 := ⟨_, rfl⟩
  obtain ⟨ki1, sp1, bx1, rws1, fl1, Q, hQ, e2, hRI1⟩ := m_em (sh := kn) (kd := ks) (kz := zs) (ko := ko) (q1 := q1) (q2 := q2) (q3 := q3) (cp := cp) (so := so) (ki := ki) (nu := nu) (no := no) (sp := sp) (hn := hn) (sl := sl) (ah := ah) (fr := f + 1) (ou := os) (tol := oc) (bx := nb) (rws := nr) (ma := tm) (dpd := dr) (isl := isl) (inn := inn) (atk := atk) (g := G1) (n := n) (m := m) (d := d + 82) (b := hst f) (k := ih - hst f) (f := f) hq hq17 hcp1 hS hk hK hcp.2.2.1 (by omega) rfl (f7 f (by omega)) (by omega) hRI (fun r _ hr => (hlh r (by omega)).2) hlr
  rw [show hst f + (ih - hst f) = ih by omega] at e2
  obtain ⟨ki2, sp2, bx2, rws2, fl2, sl2, e3, hRI2, hl2⟩ := m_flL (sh := kn) (kd := ks) (kz := zs) (ko := ko) (q1 := q1) (q2 := q2) (q3 := q3) (cp := cp) (so := so) (nu := nu) (no := no) (hn := hn) (ah := ah) (ma := tm) (isl := isl) (inn := inn) (atk := atk) (g := G1) (n := n) (m := m) (d := d + 82) (T := f + 1) hq hq17 hcp1 hS hk hK hcp.2.2.1 f2 f (hst f) ki1 sp1 (sshC 0 sl (f * 8) 8) bx1 rws1 (f_clr (f_clr R (hst f) (ih - hst f)) (24 + f * 8) 8) fl1 Q (by omega) h4 (fun i hi => f7 i (by omega)) hRI1 (fun r hr => by
      rw [r2_h (by omega), if_neg (by omega)]; exact (hlh r (by omega)).2) (fun j hj => by
      rw [r2_s (by omega) (by omega)]
      unfold sshC
      by_cases e : f * 8 ≤ j ∧ j < f * 8 + 8
      · rw [if_pos e, if_pos (by omega)]; rfl
      · rw [if_neg e, if_neg (by omega)]; exact hlr j hj)
  have e4 : fS ks hst f (hst f) (f_clr (f_clr R (hst f) (ih - hst f)) (24 + f * 8) 8) Q = RQ := by rw [hQ, ← hRQ]; rfl
  have e5 : fIh hst f (hst f) = 0 := by
    have := fIh_0 (hst := hst) (f + 1) ih (by omega)
    rw [← f4, ← this]; rfl
  rw [e4] at e3 hRI2 hl2
  rw [e5] at e3
  obtain ⟨rfl, rfl⟩ := nb_eq hCI' hRI2
  have hST := ST_mk hI hCI' hRI2.2.1 (ih2 := 0) (th2 := 1) (hst2 := upN hst 0 0) (ah2 := ah) (hsh2 := hsh) (ssh2 := ssh') (hn2 := hn) (sl2 := sl2) ⟨⟨by omega, by omega⟩, by omega, upN_s _ _ _, fun i hi => absurd hi (by omega), by rw [upN_s]; omega, fun i hi => by
    obtain rfl : i = 0 := by omega
    rw [upN_s, f7 0 (by omega), f4]⟩ ⟨q1p, fun r h h' => q2p r (by omega) h', fun r hr => absurd hr (by omega), fun j hj => ⟨hl1 j hj, hl2 j hj⟩⟩ q3p
  exact SS_mk1 (hoq := hq) (kn' := kn) (ks' := ks) (zs' := zs) (ps' := ps) (ce' := ce) (bt' := bt') (rt' := rt') (rl' := rl) (nb' := bx2) (nr' := rws2) (hsh' := hsh) (hst' := upN hst 0 0) (ssh' := ssh') (ih' := 0) (th' := 1) (wt' := wt') (os' := RQ.2.1) (wn' := wn') (oc' := RQ.2.2.1) (dr' := RQ.2.2.2) (tm' := tm) (fa' := fa) (ko' := ko) (q1' := q1) (q2' := q2) (q3' := q3) (cp' := cp) (so' := so) (ki' := ki2) (nu' := nu) (no' := no) (sp' := sp2) (hn' := hn) (sl' := sl2) (ah' := ah) (isl' := isl) (inn' := inn) (atk' := atk) hq17 hg hG0 hG1 (r := .int (nI (f + 1))) (by
    simp (disch := first | exact q_two_i _ | exact q_two_r _ | exact q_two_n | exact q_sh0 | exact q_sh1 _ | exact q_sh2 _ _ | exact q_sh3 _ _ _ | exact q_sh4 _ _ _ _ | exact c_cl_0 .. | exact c_cl_1 .. | exact c_cl_2 .. | exact c_cl_3 .. | exact c_cl_4 .. | exact c_tc_4_4 _ | exact c_tc_4_5 _ | exact c_tc_3_3 _ | exact c_tc_2_4 _ | exact c_tc_2_5 _ | exact c_tc_1_3 _ | exact c_tc_1_4 _ | exact c_tc_0_4 _ | exact c_tc_0_5 _ | exact c_tc_0_6 _ | exact z_01 | exact z_11 | exact nz_24 | exact nz_16 | assumption | omega) only [eB4_fail, x_aload_0, x_getf, c_gf_4_2, x_iv_0, x_kx1, x_kx0, x_istore_1, x_iconst, x_istore_2, x_iload_2, x_iload_1, x_ic_ge, x_iv_1, x_iinc_2, x_goto, x_ret_i, jB4_fail_10, jB4_fail_26, uB4_fail_0, n_0, n_1, n_2, n_3, n_4, n_5, n_6, n_7, n_8, n_9, n_10, n_12, n_13, n_15, n_16, n_20, n_24, n_60, n_64, n_72, n_96, n_192, n_256, n_400, n_808, n_960, n_1440, n_2048, n_2720, n_16777215, n_1000000, l_0, l_1, l_8, l_20, l_60, l_lt_t, l_lt_f, l_ge_t, l_ge_f, l_eq_t, l_eq_f, lN_i, nI_l, i_lt_t, i_lt_f, i_le_t, i_le_f, i_eq_t, i_eq_f, ↓n_m1, ↓n_m2, i_m1, i_m1s, i_m1lt, i_m1le, i_m1l2, i_m1l3, i_mm, nI_add, pk_mul, i_sub, i_dec, i_dec0, i_s01, i_div, Nat.reduceAdd, Nat.reduceSub, Nat.reduceMul, Nat.zero_add, if_true, if_false, not_true, not_false_eq_true, ↓reduceIte, c_fc, e1]
    rw [uB4_fail_26]
    simp (disch := first | exact q_two_i _ | exact q_two_r _ | exact q_two_n | exact q_sh0 | exact q_sh1 _ | exact q_sh2 _ _ | exact q_sh3 _ _ _ | exact q_sh4 _ _ _ _ | exact c_cl_0 .. | exact c_cl_1 .. | exact c_cl_2 .. | exact c_cl_3 .. | exact c_cl_4 .. | exact c_tc_4_4 _ | exact c_tc_4_5 _ | exact c_tc_3_3 _ | exact c_tc_2_4 _ | exact c_tc_2_5 _ | exact c_tc_1_3 _ | exact c_tc_1_4 _ | exact c_tc_0_4 _ | exact c_tc_0_5 _ | exact c_tc_0_6 _ | exact z_01 | exact z_11 | exact nz_24 | exact nz_16 | assumption | omega) only [x_aload_0, x_getf, c_gf_4_2, x_iv_0, x_kx1, x_kx0, x_istore_1, x_iconst, x_istore_2, x_iload_2, x_iload_1, x_ic_ge, x_iv_1, x_iinc_2, x_goto, x_ret_i, jB4_fail_10, jB4_fail_26, n_0, n_1, n_2, n_3, n_4, n_5, n_6, n_7, n_8, n_9, n_10, n_12, n_13, n_15, n_16, n_20, n_24, n_60, n_64, n_72, n_96, n_192, n_256, n_400, n_808, n_960, n_1440, n_2048, n_2720, n_16777215, n_1000000, l_0, l_1, l_8, l_20, l_60, l_lt_t, l_lt_f, l_ge_t, l_ge_f, l_eq_t, l_eq_f, lN_i, nI_l, i_lt_t, i_lt_f, i_le_t, i_le_f, i_eq_t, i_eq_f, ↓n_m1, ↓n_m2, i_m1, i_m1s, i_m1lt, i_m1le, i_m1l2, i_m1l3, i_mm, nI_add, pk_mul, i_sub, i_dec, i_dec0, i_s01, i_div, Nat.reduceAdd, Nat.reduceSub, Nat.reduceMul, Nat.zero_add, if_true, if_false, not_true, not_false_eq_true, ↓reduceIte, c_addF1]) (by
    simp (disch := first | exact q_two_i _ | exact q_two_r _ | exact q_two_n | exact q_sh0 | exact q_sh1 _ | exact q_sh2 _ _ | exact q_sh3 _ _ _ | exact q_sh4 _ _ _ _ | exact c_cl_5 hq | exact c_tc_5_3 _ | exact c_tc_5_7 _ | exact c_tc_5_8 _ | exact c_tc_5_12 _ | exact c_tc_5_13 _ | exact c_tc_5_15 _ | exact c_tc_5_16 _ | exact c_tc_5_17 _ | exact c_tc_5_18 _ | exact c_tc_5_19 _ | exact c_tc_5_21 _ | exact c_tc_5_22 _ | exact c_tc_5_20a | exact c_tc_5_20b | exact z_01 | exact z_11 | exact nz_24 | exact nz_16 | assumption | omega) only [eB5_fail, x_aload_0, x_getf, c_gf_5_13, x_istore_1, x_iv_0, x_kx1, x_kx0, x_iconst, x_ic_le, x_dup_int, x_dup_ref, x_isub, x_putf, c_pf_5_13, x_goto, x_iload_1, x_ret_i, jB5_fail_9, jB5_fail_34, uB5_fail_0, uB5_fail_34, n_0, n_1, n_2, n_3, n_4, n_5, n_6, n_7, n_8, n_9, n_10, n_12, n_13, n_15, n_16, n_20, n_24, n_60, n_64, n_72, n_96, n_192, n_256, n_400, n_808, n_960, n_1440, n_2048, n_2720, n_16777215, n_1000000, l_0, l_1, l_8, l_20, l_60, l_lt_t, l_lt_f, l_ge_t, l_ge_f, l_eq_t, l_eq_f, lN_i, nI_l, i_lt_t, i_lt_f, i_le_t, i_le_f, i_eq_t, i_eq_f, ↓n_m1, ↓n_m2, i_m1, i_m1s, i_m1lt, i_m1le, i_m1l2, i_m1l3, i_mm, nI_add, pk_mul, i_sub, i_dec, i_dec0, i_s01, i_div, Nat.reduceAdd, Nat.reduceSub, Nat.reduceMul, Nat.zero_add, if_true, if_false, not_true, not_false_eq_true, ↓reduceIte, hq, e2, e3]) ⟨_, fl2, hST⟩ hN hB1
