/-! The end of a frame, class. -/
def iM (t : Nat) : Int32 := if t = 0 then mI else nI (t - 1)
theorem iM_s (t : Nat) : iM (t + 1) = nI t := by simp [iM]
theorem iM_p {t : Nat} (h : 0 < t) : iM t = nI (t - 1) := by unfold iM; rw [if_neg (by omega)]
theorem iM_d (t : Nat) : nI t + mI = iM t := by
  cases t with
  | zero => exact i_dec0
  | succ t => rw [i_dec (by omega), iM_p (by omega)]
theorem iM_lt {t : Nat} (h : t < 100) : (iM t < nI t) = True := by
  cases t with
  | zero => exact i_m1lt (by omega)
  | succ t => rw [iM_s]; exact i_lt_t (by omega) (by omega)
theorem iM_lt0 : (iM 0 < nI 0) = True := iM_lt (by omega)
/-- what is told by the drop of roots b + k - 1 down to b -/
def hD (ks : Nat → Nat) (R : Nat → Fo) (b : Nat) : Nat → Ot → Ot
  | 0, q => q
  | k + 1, q => hD ks R b k (dO ks q (R (b + k)))
theorem hD_cg {ks : Nat → Nat} {R R' : Nat → Fo} {b : Nat} : ∀ (k : Nat) (q : Ot), (∀ r, b ≤ r → r < b + k → R' r = R r) → hD ks R' b k q = hD ks R b k q
  | 0, q, _ => rfl
  | k + 1, q, h => by
    simp only [hD]
    rw [h (b + k) (by omega) (by omega)]
    exact hD_cg k _ (fun r h1 h2 => h r h1 (by omega))
theorem f_clr_up (R : Nat → Fo) (b k : Nat) : f_clr (upN R (b + k) .leaf) b k = f_clr R b (k + 1) := by
  funext r
  unfold f_clr
  by_cases h : r = b + k
  · subst h; rw [if_neg (by omega), upN_s, if_pos (by omega)]
  · rw [upN_n _ _ h]
    by_cases h2 : b ≤ r ∧ r < b + k
    · rw [if_pos h2, if_pos (by omega)]
    · rw [if_neg h2, if_neg (by omega)]
def sshC {α : Type} (x : α) (ssh : Nat → α) (j t : Nat) : Nat → α := fun p => if j ≤ p ∧ p < j + t then x else ssh p
theorem sshC_0 {α : Type} (x : α) (ssh : Nat → α) (j : Nat) : sshC x ssh j 0 = ssh := by
  funext p; unfold sshC; rw [if_neg (by omega)]
theorem sshC_s {α : Type} (x : α) (ssh : Nat → α) (j t : Nat) : sshC x (upN ssh (j + t) x) j t = sshC x ssh j (t + 1) := by
  funext p
  unfold sshC
  by_cases h : p = j + t
  · subst h; rw [if_neg (by omega), upN_s, if_pos (by omega)]
  · rw [upN_n _ _ h]
    by_cases h2 : j ≤ p ∧ p < j + t
    · rw [if_pos h2, if_pos (by omega)]
    · rw [if_neg h2, if_neg (by omega)]
theorem c_elS {kn : Nat} {ks zs : Nat → Nat} {ps : Nat → Int32} {ce : Nat → Int64} {rl hsh hst : Nat → Nat} {ih th tm : Nat} {fa : Int32} {g : Nat → Option am_E} {n m d f : Nat} {x1 x3 : Int32} (hS : s_ok kn ks zs ps) (hk : kn ≤ 24) (hf : f < 12) : ∀ (t : Nat) (bt rt : Nat → Nat) (nb nr : Nat) (ssh : Nat → Int32) (wt : Nat → Nat) (wn : Nat) (R : Nat → Fo) (q : Ot), t ≤ 8 → CI kn ks zs ps ce bt rt rl nb nr q.2.1 R → (∀ p, p < t → ssh (f * 8 + p) = s_slot (R (24 + f * 8 + p))) →
    ∃ bt' rt' nb' nr' wt' wn', am_X (ev (d + 6)) B4_endLastFrame_0 (B4_endLastFrame_74, [some (.ref 1), some (.int x1), some (.int (nI f)), some (.int x3), some (.int (iM t))], [], (n, m, CO kn ks zs ps ce bt rt rl nb nr hsh hst ssh ih th wt (q.1) wn (q.2.1) (q.2.2) tm fa g)) = am_X (ev (d + 6)) B4_endLastFrame_0 (B4_endLastFrame_119, [some (.ref 1), some (.int x1), some (.int (nI f)), some (.int x3), some (.int mI)], [], (n, m, CO kn ks zs ps ce (bt') (rt') rl (nb') (nr') hsh hst (sshC mI ssh (f * 8) t) ih th (wt') ((hD ks R (24 + f * 8) t q).1) (wn') ((hD ks R (24 + f * 8) t q).2.1) ((hD ks R (24 + f * 8) t q).2.2) tm fa g)) ∧ CI kn ks zs ps ce bt' rt' rl nb' nr' (hD ks R (24 + f * 8) t q).2.1 (f_clr R (24 + f * 8) t) := by
  intro t
  induction t with
  | zero =>
    intro bt rt nb nr ssh wt wn R q ht hCI hl
    refine ⟨bt, rt, nb, nr, wt, wn, ?_, by rw [f_clr_0]; exact hCI⟩
    conv => lhs; rw [uB4_endLastFrame_74]
    rw [sshC_0]
    have e0 : iM 0 = mI := rfl
    simp (disch := first | exact q_two_i _ | exact q_two_r _ | exact q_two_n | exact q_sh0 | exact q_sh1 _ | exact q_sh2 _ _ | exact q_sh3 _ _ _ | exact q_sh4 _ _ _ _ | exact c_cl_0 .. | exact c_cl_1 .. | exact c_cl_2 .. | exact c_cl_3 .. | exact c_cl_4 .. | exact c_tc_4_4 _ | exact c_tc_4_5 _ | exact c_tc_3_3 _ | exact c_tc_2_4 _ | exact c_tc_2_5 _ | exact c_tc_1_3 _ | exact c_tc_1_4 _ | exact c_tc_0_4 _ | exact c_tc_0_5 _ | exact c_tc_0_6 _ | exact z_01 | exact z_11 | exact nz_24 | exact nz_16 | assumption | omega) only [x_aload_0, x_getf, c_gf_4_2, x_iv_0, x_kx1, x_kx0, x_istore_2, x_isub, x_istore_3, x_iconst, x_iload_1, x_istore_4, x_iload_4, x_iload_3, x_ic_lt, c_gf_4_3, x_iv_1, x_it_1, x_iv_2, x_iinc_4, x_goto, x_bipush, x_if_lt, x_iload_2, x_it_2, x_iv_3, x_ret_v, jB4_endLastFrame_37, jB4_endLastFrame_70, jB4_endLastFrame_74, jB4_endLastFrame_119, uB4_endLastFrame_70, n_0, n_1, n_2, n_3, n_4, n_5, n_6, n_7, n_8, n_9, n_10, n_12, n_13, n_15, n_16, n_20, n_24, n_60, n_64, n_72, n_96, n_192, n_256, n_400, n_808, n_960, n_1440, n_2048, n_2720, n_16777215, n_1000000, l_0, l_1, l_8, l_20, l_60, l_lt_t, l_lt_f, l_ge_t, l_ge_f, l_eq_t, l_eq_f, lN_i, nI_l, i_lt_t, i_lt_f, i_le_t, i_le_f, i_eq_t, i_eq_f, ↓n_m1, ↓n_m2, i_m1, i_m1s, i_m1lt, i_m1le, i_m1l2, i_m1l3, i_mm, nI_add, pk_mul, i_sub, i_dec, i_dec0, i_s01, i_div, Nat.reduceAdd, Nat.reduceSub, Nat.reduceMul, Nat.zero_add, if_true, if_false, not_true, not_false_eq_true, ↓reduceIte, e0, hD]
  | succ t ih' =>
    intro bt rt nb nr ssh wt wn R q ht hCI hl
    obtain ⟨bt1, rt1, nb1, nr1, wt1, e1, hCI1⟩ := c_dropR (kn := kn) (ks := ks) (zs := zs) (ps := ps) (ce := ce) (bt := bt) (rt := rt) (rl := rl) (nb := nb) (nr := nr) (hsh := hsh) (hst := hst) (ssh := ssh) (ih := ih) (th := th) (wt := wt) (wn := wn) (tm := tm) (fa := fa) (q := q) (g := g) (n := n) (m := m) (d := d) (r := 24 + f * 8 + t) hS hk hCI (by omega) (hl t (by omega)) (show 192 + (f * 8 + t) * 8 = 8 * (24 + f * 8 + t) by omega)
    obtain ⟨bt2, rt2, nb2, nr2, wt2, wn2, e2, hCI2⟩ := ih' bt1 rt1 nb1 nr1 (upN ssh (f * 8 + t) mI) wt1 0 (upN R (24 + f * 8 + t) .leaf) (dO ks q (R (24 + f * 8 + t))) (by omega) hCI1 (fun p hp => by rw [upN_n _ _ (by omega), upN_n _ _ (by omega)]; exact hl p (by omega))
    have e3 : hD ks (upN R (24 + f * 8 + t) .leaf) (24 + f * 8) t (dO ks q (R (24 + f * 8 + t))) = hD ks R (24 + f * 8) (t + 1) q := by
      rw [hD_cg (R := R) t _ (fun r h1 h2 => upN_n _ _ (by omega))]; rfl
    rw [e3, f_clr_up] at hCI2
    rw [e3, sshC_s] at e2
    refine ⟨bt2, rt2, nb2, nr2, wt2, wn2, ?_, hCI2⟩
    rw [← e2]
    conv => lhs; rw [uB4_endLastFrame_74]
    have ht8 : t < 8 := by omega
    have e0 := iM_s t
    have e4 := iM_d t
    simp (disch := first | exact q_two_i _ | exact q_two_r _ | exact q_two_n | exact q_sh0 | exact q_sh1 _ | exact q_sh2 _ _ | exact q_sh3 _ _ _ | exact q_sh4 _ _ _ _ | exact c_cl_0 .. | exact c_cl_1 .. | exact c_cl_2 .. | exact c_cl_3 .. | exact c_cl_4 .. | exact c_tc_4_4 _ | exact c_tc_4_5 _ | exact c_tc_3_3 _ | exact c_tc_2_4 _ | exact c_tc_2_5 _ | exact c_tc_1_3 _ | exact c_tc_1_4 _ | exact c_tc_0_4 _ | exact c_tc_0_5 _ | exact c_tc_0_6 _ | exact z_01 | exact z_11 | exact nz_24 | exact nz_16 | assumption | omega) only [x_aload_0, x_getf, c_gf_4_2, x_iv_0, x_kx1, x_kx0, x_istore_2, x_isub, x_istore_3, x_iconst, x_iload_1, x_istore_4, x_iload_4, x_iload_3, x_ic_lt, c_gf_4_3, x_iv_1, x_it_1, x_iv_2, x_iinc_4, x_goto, x_bipush, x_if_lt, x_iload_2, x_it_2, x_iv_3, x_ret_v, jB4_endLastFrame_37, jB4_endLastFrame_70, jB4_endLastFrame_74, jB4_endLastFrame_119, uB4_endLastFrame_70, n_0, n_1, n_2, n_3, n_4, n_5, n_6, n_7, n_8, n_9, n_10, n_12, n_13, n_15, n_16, n_20, n_24, n_60, n_64, n_72, n_96, n_192, n_256, n_400, n_808, n_960, n_1440, n_2048, n_2720, n_16777215, n_1000000, l_0, l_1, l_8, l_20, l_60, l_lt_t, l_lt_f, l_ge_t, l_ge_f, l_eq_t, l_eq_f, lN_i, nI_l, i_lt_t, i_lt_f, i_le_t, i_le_f, i_eq_t, i_eq_f, ↓n_m1, ↓n_m2, i_m1, i_m1s, i_m1lt, i_m1le, i_m1l2, i_m1l3, i_mm, nI_add, pk_mul, i_sub, i_dec, i_dec0, i_s01, i_div, Nat.reduceAdd, Nat.reduceSub, Nat.reduceMul, Nat.zero_add, if_true, if_false, not_true, not_false_eq_true, ↓reduceIte, e0, c_ssh, c_sAt, e1, c_fill, e4]
theorem c_elH {kn : Nat} {ks zs : Nat → Nat} {ps : Nat → Int32} {ce : Nat → Int64} {rl hsh hst : Nat → Nat} {ssh : Nat → Int32} {ih th tm : Nat} {fa : Int32} {g : Nat → Option am_E} {n m d b : Nat} {x1 x2 : Int32} (hS : s_ok kn ks zs ps) (hk : kn ≤ 24) (h24 : ih ≤ 24) : ∀ (k : Nat) (bt rt : Nat → Nat) (nb nr : Nat) (wt : Nat → Nat) (wn : Nat) (R : Nat → Fo) (q : Ot), b + k ≤ ih → CI kn ks zs ps ce bt rt rl nb nr q.2.1 R → (∀ r, r < b + k → nI (hsh r) = s_slot (R r)) →
    ∃ bt' rt' nb' nr' wt' wn', am_X (ev (d + 6)) B4_endLastFrame_0 (B4_endLastFrame_37, [some (.ref 1), some (.int x1), some (.int x2), some (.int (nI b)), some (.int (iM (b + k)))], [], (n, m, CO kn ks zs ps ce bt rt rl nb nr hsh hst ssh ih th wt (q.1) wn (q.2.1) (q.2.2) tm fa g)) = am_X (ev (d + 6)) B4_endLastFrame_0 (B4_endLastFrame_74, [some (.ref 1), some (.int x1), some (.int x2), some (.int (nI b)), some (.int (nI 7))], [], (n, m, CO kn ks zs ps ce (bt') (rt') rl (nb') (nr') hsh hst ssh ih th (wt') ((hD ks R b k q).1) (wn') ((hD ks R b k q).2.1) ((hD ks R b k q).2.2) tm fa g)) ∧ CI kn ks zs ps ce bt' rt' rl nb' nr' (hD ks R b k q).2.1 (f_clr R b k) := by
  intro k
  induction k with
  | zero =>
    intro bt rt nb nr wt wn R q ht hCI hl
    refine ⟨bt, rt, nb, nr, wt, wn, ?_, by rw [f_clr_0]; exact hCI⟩
    conv => lhs; rw [uB4_endLastFrame_37]
    have e0 := iM_lt (t := b) (by omega)
    simp (disch := first | exact q_two_i _ | exact q_two_r _ | exact q_two_n | exact q_sh0 | exact q_sh1 _ | exact q_sh2 _ _ | exact q_sh3 _ _ _ | exact q_sh4 _ _ _ _ | exact c_cl_0 .. | exact c_cl_1 .. | exact c_cl_2 .. | exact c_cl_3 .. | exact c_cl_4 .. | exact c_tc_4_4 _ | exact c_tc_4_5 _ | exact c_tc_3_3 _ | exact c_tc_2_4 _ | exact c_tc_2_5 _ | exact c_tc_1_3 _ | exact c_tc_1_4 _ | exact c_tc_0_4 _ | exact c_tc_0_5 _ | exact c_tc_0_6 _ | exact z_01 | exact z_11 | exact nz_24 | exact nz_16 | assumption | omega) only [x_aload_0, x_getf, c_gf_4_2, x_iv_0, x_kx1, x_kx0, x_istore_2, x_isub, x_istore_3, x_iconst, x_iload_1, x_istore_4, x_iload_4, x_iload_3, x_ic_lt, c_gf_4_3, x_iv_1, x_it_1, x_iv_2, x_iinc_4, x_goto, x_bipush, x_if_lt, x_iload_2, x_it_2, x_iv_3, x_ret_v, jB4_endLastFrame_37, jB4_endLastFrame_70, jB4_endLastFrame_74, jB4_endLastFrame_119, uB4_endLastFrame_70, n_0, n_1, n_2, n_3, n_4, n_5, n_6, n_7, n_8, n_9, n_10, n_12, n_13, n_15, n_16, n_20, n_24, n_60, n_64, n_72, n_96, n_192, n_256, n_400, n_808, n_960, n_1440, n_2048, n_2720, n_16777215, n_1000000, l_0, l_1, l_8, l_20, l_60, l_lt_t, l_lt_f, l_ge_t, l_ge_f, l_eq_t, l_eq_f, lN_i, nI_l, i_lt_t, i_lt_f, i_le_t, i_le_f, i_eq_t, i_eq_f, ↓n_m1, ↓n_m2, i_m1, i_m1s, i_m1lt, i_m1le, i_m1l2, i_m1l3, i_mm, nI_add, pk_mul, i_sub, i_dec, i_dec0, i_s01, i_div, Nat.reduceAdd, Nat.reduceSub, Nat.reduceMul, Nat.zero_add, if_true, if_false, not_true, not_false_eq_true, ↓reduceIte, Nat.add_zero, e0, hD]
  | succ k ih' =>
    intro bt rt nb nr wt wn R q ht hCI hl
    obtain ⟨bt1, rt1, nb1, nr1, wt1, e1, hCI1⟩ := c_dropR (kn := kn) (ks := ks) (zs := zs) (ps := ps) (ce := ce) (bt := bt) (rt := rt) (rl := rl) (nb := nb) (nr := nr) (hsh := hsh) (hst := hst) (ssh := ssh) (ih := ih) (th := th) (wt := wt) (wn := wn) (tm := tm) (fa := fa) (q := q) (g := g) (n := n) (m := m) (d := d) (r := b + k) hS hk hCI (by omega) (hl (b + k) (by omega)) (show (b + k) * 8 = 8 * (b + k) by omega)
    obtain ⟨bt2, rt2, nb2, nr2, wt2, wn2, e2, hCI2⟩ := ih' bt1 rt1 nb1 nr1 wt1 0 (upN R (b + k) .leaf) (dO ks q (R (b + k))) (by omega) hCI1 (fun p hp => by rw [upN_n _ _ (by omega)]; exact hl p (by omega))
    have e3 : hD ks (upN R (b + k) .leaf) b k (dO ks q (R (b + k))) = hD ks R b (k + 1) q := by
      rw [hD_cg (R := R) k _ (fun r h1 h2 => upN_n _ _ (by omega))]; rfl
    rw [e3, f_clr_up] at hCI2
    rw [e3] at e2
    refine ⟨bt2, rt2, nb2, nr2, wt2, wn2, ?_, hCI2⟩
    rw [← e2]
    conv => lhs; rw [uB4_endLastFrame_37]
    have e0 : iM (b + (k + 1)) = nI (b + k) := iM_s (b + k)
    have e4 := iM_d (b + k)
    simp (disch := first | exact q_two_i _ | exact q_two_r _ | exact q_two_n | exact q_sh0 | exact q_sh1 _ | exact q_sh2 _ _ | exact q_sh3 _ _ _ | exact q_sh4 _ _ _ _ | exact c_cl_0 .. | exact c_cl_1 .. | exact c_cl_2 .. | exact c_cl_3 .. | exact c_cl_4 .. | exact c_tc_4_4 _ | exact c_tc_4_5 _ | exact c_tc_3_3 _ | exact c_tc_2_4 _ | exact c_tc_2_5 _ | exact c_tc_1_3 _ | exact c_tc_1_4 _ | exact c_tc_0_4 _ | exact c_tc_0_5 _ | exact c_tc_0_6 _ | exact z_01 | exact z_11 | exact nz_24 | exact nz_16 | assumption | omega) only [x_aload_0, x_getf, c_gf_4_2, x_iv_0, x_kx1, x_kx0, x_istore_2, x_isub, x_istore_3, x_iconst, x_iload_1, x_istore_4, x_iload_4, x_iload_3, x_ic_lt, c_gf_4_3, x_iv_1, x_it_1, x_iv_2, x_iinc_4, x_goto, x_bipush, x_if_lt, x_iload_2, x_it_2, x_iv_3, x_ret_v, jB4_endLastFrame_37, jB4_endLastFrame_70, jB4_endLastFrame_74, jB4_endLastFrame_119, uB4_endLastFrame_70, n_0, n_1, n_2, n_3, n_4, n_5, n_6, n_7, n_8, n_9, n_10, n_12, n_13, n_15, n_16, n_20, n_24, n_60, n_64, n_72, n_96, n_192, n_256, n_400, n_808, n_960, n_1440, n_2048, n_2720, n_16777215, n_1000000, l_0, l_1, l_8, l_20, l_60, l_lt_t, l_lt_f, l_ge_t, l_ge_f, l_eq_t, l_eq_f, lN_i, nI_l, i_lt_t, i_lt_f, i_le_t, i_le_f, i_eq_t, i_eq_f, ↓n_m1, ↓n_m2, i_m1, i_m1s, i_m1lt, i_m1le, i_m1l2, i_m1l3, i_mm, nI_add, pk_mul, i_sub, i_dec, i_dec0, i_s01, i_div, Nat.reduceAdd, Nat.reduceSub, Nat.reduceMul, Nat.zero_add, if_true, if_false, not_true, not_false_eq_true, ↓reduceIte, e0, c_hsh, c_hAt, e1, e4]
/-- the last frame ends, but for the topmost kp of its hand -/
theorem c_el {kn : Nat} {ks zs : Nat → Nat} {ps : Nat → Int32} {ce : Nat → Int64} {bt rt rl : Nat → Nat} {nb nr : Nat} {hsh hst : Nat → Nat} {ssh : Nat → Int32} {ih th : Nat} {wt : Nat → Nat} {os : Nat → Int64} {wn oc dr tm : Nat} {fa : Int32} {g : Nat → Option am_E} {n m d b0 kp : Nat} {R : Nat → Fo} (hS : s_ok kn ks zs ps) (hk : kn ≤ 24) (h24 : ih ≤ 24) (h1 : 1 ≤ th) (h12 : th ≤ 12) (hb : hst (th - 1) = b0) (hb3 : b0 + kp ≤ ih) (hkp : kp ≤ 1) (hCI : CI kn ks zs ps ce bt rt rl nb nr oc R) (hlh : ∀ r, r < ih → nI (hsh r) = s_slot (R r)) (hls : ∀ j, j < 96 → ssh j = s_slot (R (24 + j))) :
    ∃ bt' rt' nb' nr' wt' wn' Q, Q = hD ks (f_clr R b0 (ih - kp - b0)) (24 + (th - 1) * 8) 8 (hD ks R b0 (ih - kp - b0) (os, oc, dr)) ∧ ev (d + 7) 103 [.ref 1, .int (nI kp)] (n, m, CO kn ks zs ps ce bt rt rl nb nr hsh hst ssh ih th wt os wn oc dr tm fa g) = some (none, (n, m, CO kn ks zs ps ce (bt') (rt') rl (nb') (nr') hsh hst (sshC mI ssh ((th - 1) * 8) 8) (b0) (th - 1) (wt') (Q.1) (wn') (Q.2.1) (Q.2.2) tm fa g)) ∧ CI kn ks zs ps ce bt' rt' rl nb' nr' Q.2.1 (f_clr (f_clr R b0 (ih - kp - b0)) (24 + (th - 1) * 8) 8) := by
  obtain ⟨k, hkk⟩ : ∃ k, ih - kp - b0 = k := ⟨_, rfl⟩
  rw [hkk]
  obtain ⟨bt1, rt1, nb1, nr1, wt1, wn1, e1, hCI1⟩ := c_elH (kn := kn) (ks := ks) (zs := zs) (ps := ps) (ce := ce) (rl := rl) (hsh := hsh) (hst := hst) (ssh := ssh) (ih := ih) (th := th) (tm := tm) (fa := fa) (g := g) (n := n) (m := m) (d := d) (b := b0) (x1 := nI kp) (x2 := nI (th - 1)) hS hk h24 k bt rt nb nr wt wn R (os, oc, dr) (by omega) hCI (fun r hr => hlh r (by omega))
  obtain ⟨bt2, rt2, nb2, nr2, wt2, wn2, e2, hCI2⟩ := c_elS (kn := kn) (ks := ks) (zs := zs) (ps := ps) (ce := ce) (rl := rl) (hsh := hsh) (hst := hst) (ih := ih) (th := th) (tm := tm) (fa := fa) (g := g) (n := n) (m := m) (d := d) (f := th - 1) (x1 := nI kp) (x3 := nI b0) hS hk (by omega) 8 bt1 rt1 nb1 nr1 ssh wt1 wn1 (f_clr R b0 k) (hD ks R b0 k (os, oc, dr)) (by omega) hCI1 (fun p hp => by
    unfold f_clr
    rw [if_neg (by omega), hls _ (by omega), show 24 + ((th - 1) * 8 + p) = 24 + (th - 1) * 8 + p by omega])
  refine ⟨bt2, rt2, nb2, nr2, wt2, wn2, _, rfl, ?_, hCI2⟩
  obtain ⟨Q, hQ⟩ : ∃ Q, hD ks (f_clr R b0 k) (24 + (th - 1) * 8) 8 (hD ks R b0 k (os, oc, dr)) = Q := ⟨_, rfl⟩
  rw [hQ] at e2 ⊢
  rw [show iM 8 = nI 7 from iM_s 7] at e2
  dsimp only at e1
  rw [e2] at e1
  have hb3' : b0 ≤ ih := by omega
  have e3 : ih - (ih - b0) = b0 := by omega
  have e5 : ∀ q1 q2 q3 q4 q5 q6, am_X (ev (d + 6)) B4_endLastFrame_0 (B4_endLastFrame_119, [some (.ref 1), some (.int (nI kp)), some (.int (nI (th - 1))), some (.int (nI b0)), some (.int mI)], [], (n, m, CO kn ks zs ps ce (q1) (q2) rl (q3) (q4) hsh hst (sshC mI ssh ((th - 1) * 8) 8) ih th (q5) (Q.1) (q6) (Q.2.1) (Q.2.2) tm fa g)) = some (none, (n, m, CO kn ks zs ps ce (q1) (q2) rl (q3) (q4) hsh hst (sshC mI ssh ((th - 1) * 8) 8) (b0) (th - 1) (q5) (Q.1) (q6) (Q.2.1) (Q.2.2) tm fa g)) := fun q1 q2 q3 q4 q5 q6 => by
    rw [uB4_endLastFrame_119]
    simp (disch := first | exact q_two_i _ | exact q_two_r _ | exact q_two_n | exact q_sh0 | exact q_sh1 _ | exact q_sh2 _ _ | exact q_sh3 _ _ _ | exact q_sh4 _ _ _ _ | exact c_cl_0 .. | exact c_cl_1 .. | exact c_cl_2 .. | exact c_cl_3 .. | exact c_cl_4 .. | exact c_tc_4_4 _ | exact c_tc_4_5 _ | exact c_tc_3_3 _ | exact c_tc_2_4 _ | exact c_tc_2_5 _ | exact c_tc_1_3 _ | exact c_tc_1_4 _ | exact c_tc_0_4 _ | exact c_tc_0_5 _ | exact c_tc_0_6 _ | exact z_01 | exact z_11 | exact nz_24 | exact nz_16 | assumption | omega) only [x_aload_0, x_getf, c_gf_4_2, x_iv_0, x_kx1, x_kx0, x_istore_2, x_isub, x_istore_3, x_iconst, x_iload_1, x_istore_4, x_iload_4, x_iload_3, x_ic_lt, c_gf_4_3, x_iv_1, x_it_1, x_iv_2, x_iinc_4, x_goto, x_bipush, x_if_lt, x_iload_2, x_it_2, x_iv_3, x_ret_v, jB4_endLastFrame_37, jB4_endLastFrame_70, jB4_endLastFrame_74, jB4_endLastFrame_119, uB4_endLastFrame_70, n_0, n_1, n_2, n_3, n_4, n_5, n_6, n_7, n_8, n_9, n_10, n_12, n_13, n_15, n_16, n_20, n_24, n_60, n_64, n_72, n_96, n_192, n_256, n_400, n_808, n_960, n_1440, n_2048, n_2720, n_16777215, n_1000000, l_0, l_1, l_8, l_20, l_60, l_lt_t, l_lt_f, l_ge_t, l_ge_f, l_eq_t, l_eq_f, lN_i, nI_l, i_lt_t, i_lt_f, i_le_t, i_le_f, i_eq_t, i_eq_f, ↓n_m1, ↓n_m2, i_m1, i_m1s, i_m1lt, i_m1le, i_m1l2, i_m1l3, i_mm, nI_add, pk_mul, i_sub, i_dec, i_dec0, i_s01, i_div, Nat.reduceAdd, Nat.reduceSub, Nat.reduceMul, Nat.zero_add, if_true, if_false, not_true, not_false_eq_true, ↓reduceIte, c_hol, c_off, e3, c_remF]
  rw [e5] at e1
  have hcs : ih = 0 ∨ (ih = 1 ∧ kp = 1) ∨ (0 < ih ∧ kp = 0) ∨ (1 < ih ∧ kp = 1) := by omega
  rcases hcs with h | ⟨h, h'⟩ | ⟨h, h'⟩ | ⟨h, h'⟩
  · subst h
    obtain rfl : kp = 0 := by omega
    obtain rfl : b0 = 0 := by omega
    obtain rfl : k = 0 := by omega
    have e6 : mI - nI 0 = mI := by decide
    have e7 : iM (0 + 0) = mI := rfl
    rw [e7] at e1
    simp (disch := first | exact q_two_i _ | exact q_two_r _ | exact q_two_n | exact q_sh0 | exact q_sh1 _ | exact q_sh2 _ _ | exact q_sh3 _ _ _ | exact q_sh4 _ _ _ _ | exact c_cl_0 .. | exact c_cl_1 .. | exact c_cl_2 .. | exact c_cl_3 .. | exact c_cl_4 .. | exact c_tc_4_4 _ | exact c_tc_4_5 _ | exact c_tc_3_3 _ | exact c_tc_2_4 _ | exact c_tc_2_5 _ | exact c_tc_1_3 _ | exact c_tc_1_4 _ | exact c_tc_0_4 _ | exact c_tc_0_5 _ | exact c_tc_0_6 _ | exact z_01 | exact z_11 | exact nz_24 | exact nz_16 | assumption | omega) only [eB4_endLastFrame, x_aload_0, x_getf, c_gf_4_2, x_iv_0, x_kx1, x_kx0, x_istore_2, x_isub, x_istore_3, x_iconst, x_iload_1, x_istore_4, x_iload_4, x_iload_3, x_ic_lt, c_gf_4_3, x_iv_1, x_it_1, x_iv_2, x_iinc_4, x_goto, x_bipush, x_if_lt, x_iload_2, x_it_2, x_iv_3, x_ret_v, jB4_endLastFrame_37, jB4_endLastFrame_70, jB4_endLastFrame_74, jB4_endLastFrame_119, uB4_endLastFrame_0, uB4_endLastFrame_70, n_0, n_1, n_2, n_3, n_4, n_5, n_6, n_7, n_8, n_9, n_10, n_12, n_13, n_15, n_16, n_20, n_24, n_60, n_64, n_72, n_96, n_192, n_256, n_400, n_808, n_960, n_1440, n_2048, n_2720, n_16777215, n_1000000, l_0, l_1, l_8, l_20, l_60, l_lt_t, l_lt_f, l_ge_t, l_ge_f, l_eq_t, l_eq_f, lN_i, nI_l, i_lt_t, i_lt_f, i_le_t, i_le_f, i_eq_t, i_eq_f, ↓n_m1, ↓n_m2, i_m1, i_m1s, i_m1lt, i_m1le, i_m1l2, i_m1l3, i_mm, nI_add, pk_mul, i_sub, i_dec, i_dec0, i_s01, i_div, Nat.reduceAdd, Nat.reduceSub, Nat.reduceMul, Nat.zero_add, if_true, if_false, not_true, not_false_eq_true, ↓reduceIte, c_lf, c_hc, c_hol, e3, e6, Nat.sub_self, Nat.sub_zero, e1]
  · subst h
    subst h'
    obtain rfl : b0 = 0 := by omega
    obtain rfl : k = 0 := by omega
    have e7 : iM (0 + 0) = mI := rfl
    rw [e7] at e1
    simp (disch := first | exact q_two_i _ | exact q_two_r _ | exact q_two_n | exact q_sh0 | exact q_sh1 _ | exact q_sh2 _ _ | exact q_sh3 _ _ _ | exact q_sh4 _ _ _ _ | exact c_cl_0 .. | exact c_cl_1 .. | exact c_cl_2 .. | exact c_cl_3 .. | exact c_cl_4 .. | exact c_tc_4_4 _ | exact c_tc_4_5 _ | exact c_tc_3_3 _ | exact c_tc_2_4 _ | exact c_tc_2_5 _ | exact c_tc_1_3 _ | exact c_tc_1_4 _ | exact c_tc_0_4 _ | exact c_tc_0_5 _ | exact c_tc_0_6 _ | exact z_01 | exact z_11 | exact nz_24 | exact nz_16 | assumption | omega) only [eB4_endLastFrame, x_aload_0, x_getf, c_gf_4_2, x_iv_0, x_kx1, x_kx0, x_istore_2, x_isub, x_istore_3, x_iconst, x_iload_1, x_istore_4, x_iload_4, x_iload_3, x_ic_lt, c_gf_4_3, x_iv_1, x_it_1, x_iv_2, x_iinc_4, x_goto, x_bipush, x_if_lt, x_iload_2, x_it_2, x_iv_3, x_ret_v, jB4_endLastFrame_37, jB4_endLastFrame_70, jB4_endLastFrame_74, jB4_endLastFrame_119, uB4_endLastFrame_0, uB4_endLastFrame_70, n_0, n_1, n_2, n_3, n_4, n_5, n_6, n_7, n_8, n_9, n_10, n_12, n_13, n_15, n_16, n_20, n_24, n_60, n_64, n_72, n_96, n_192, n_256, n_400, n_808, n_960, n_1440, n_2048, n_2720, n_16777215, n_1000000, l_0, l_1, l_8, l_20, l_60, l_lt_t, l_lt_f, l_ge_t, l_ge_f, l_eq_t, l_eq_f, lN_i, nI_l, i_lt_t, i_lt_f, i_le_t, i_le_f, i_eq_t, i_eq_f, ↓n_m1, ↓n_m2, i_m1, i_m1s, i_m1lt, i_m1le, i_m1l2, i_m1l3, i_mm, nI_add, pk_mul, i_sub, i_dec, i_dec0, i_s01, i_div, Nat.reduceAdd, Nat.reduceSub, Nat.reduceMul, Nat.zero_add, if_true, if_false, not_true, not_false_eq_true, ↓reduceIte, c_lf, c_hc, c_hol, e3, Nat.sub_self, Nat.sub_zero, e1]
  · subst h'
    rw [show b0 + k = ih by omega, iM_p h] at e1
    simp (disch := first | exact q_two_i _ | exact q_two_r _ | exact q_two_n | exact q_sh0 | exact q_sh1 _ | exact q_sh2 _ _ | exact q_sh3 _ _ _ | exact q_sh4 _ _ _ _ | exact c_cl_0 .. | exact c_cl_1 .. | exact c_cl_2 .. | exact c_cl_3 .. | exact c_cl_4 .. | exact c_tc_4_4 _ | exact c_tc_4_5 _ | exact c_tc_3_3 _ | exact c_tc_2_4 _ | exact c_tc_2_5 _ | exact c_tc_1_3 _ | exact c_tc_1_4 _ | exact c_tc_0_4 _ | exact c_tc_0_5 _ | exact c_tc_0_6 _ | exact z_01 | exact z_11 | exact nz_24 | exact nz_16 | assumption | omega) only [eB4_endLastFrame, x_aload_0, x_getf, c_gf_4_2, x_iv_0, x_kx1, x_kx0, x_istore_2, x_isub, x_istore_3, x_iconst, x_iload_1, x_istore_4, x_iload_4, x_iload_3, x_ic_lt, c_gf_4_3, x_iv_1, x_it_1, x_iv_2, x_iinc_4, x_goto, x_bipush, x_if_lt, x_iload_2, x_it_2, x_iv_3, x_ret_v, jB4_endLastFrame_37, jB4_endLastFrame_70, jB4_endLastFrame_74, jB4_endLastFrame_119, uB4_endLastFrame_0, uB4_endLastFrame_70, n_0, n_1, n_2, n_3, n_4, n_5, n_6, n_7, n_8, n_9, n_10, n_12, n_13, n_15, n_16, n_20, n_24, n_60, n_64, n_72, n_96, n_192, n_256, n_400, n_808, n_960, n_1440, n_2048, n_2720, n_16777215, n_1000000, l_0, l_1, l_8, l_20, l_60, l_lt_t, l_lt_f, l_ge_t, l_ge_f, l_eq_t, l_eq_f, lN_i, nI_l, i_lt_t, i_lt_f, i_le_t, i_le_f, i_eq_t, i_eq_f, ↓n_m1, ↓n_m2, i_m1, i_m1s, i_m1lt, i_m1le, i_m1l2, i_m1l3, i_mm, nI_add, pk_mul, i_sub, i_dec, i_dec0, i_s01, i_div, Nat.reduceAdd, Nat.reduceSub, Nat.reduceMul, Nat.zero_add, if_true, if_false, not_true, not_false_eq_true, ↓reduceIte, c_lf, c_hc, c_hol, e3, Nat.sub_zero, e1]
  · subst h'
    rw [show b0 + k = ih - 1 by omega, iM_p (by omega)] at e1
    simp (disch := first | exact q_two_i _ | exact q_two_r _ | exact q_two_n | exact q_sh0 | exact q_sh1 _ | exact q_sh2 _ _ | exact q_sh3 _ _ _ | exact q_sh4 _ _ _ _ | exact c_cl_0 .. | exact c_cl_1 .. | exact c_cl_2 .. | exact c_cl_3 .. | exact c_cl_4 .. | exact c_tc_4_4 _ | exact c_tc_4_5 _ | exact c_tc_3_3 _ | exact c_tc_2_4 _ | exact c_tc_2_5 _ | exact c_tc_1_3 _ | exact c_tc_1_4 _ | exact c_tc_0_4 _ | exact c_tc_0_5 _ | exact c_tc_0_6 _ | exact z_01 | exact z_11 | exact nz_24 | exact nz_16 | assumption | omega) only [eB4_endLastFrame, x_aload_0, x_getf, c_gf_4_2, x_iv_0, x_kx1, x_kx0, x_istore_2, x_isub, x_istore_3, x_iconst, x_iload_1, x_istore_4, x_iload_4, x_iload_3, x_ic_lt, c_gf_4_3, x_iv_1, x_it_1, x_iv_2, x_iinc_4, x_goto, x_bipush, x_if_lt, x_iload_2, x_it_2, x_iv_3, x_ret_v, jB4_endLastFrame_37, jB4_endLastFrame_70, jB4_endLastFrame_74, jB4_endLastFrame_119, uB4_endLastFrame_0, uB4_endLastFrame_70, n_0, n_1, n_2, n_3, n_4, n_5, n_6, n_7, n_8, n_9, n_10, n_12, n_13, n_15, n_16, n_20, n_24, n_60, n_64, n_72, n_96, n_192, n_256, n_400, n_808, n_960, n_1440, n_2048, n_2720, n_16777215, n_1000000, l_0, l_1, l_8, l_20, l_60, l_lt_t, l_lt_f, l_ge_t, l_ge_f, l_eq_t, l_eq_f, lN_i, nI_l, i_lt_t, i_lt_f, i_le_t, i_le_f, i_eq_t, i_eq_f, ↓n_m1, ↓n_m2, i_m1, i_m1s, i_m1lt, i_m1le, i_m1l2, i_m1l3, i_mm, nI_add, pk_mul, i_sub, i_dec, i_dec0, i_s01, i_div, Nat.reduceAdd, Nat.reduceSub, Nat.reduceMul, Nat.zero_add, if_true, if_false, not_true, not_false_eq_true, ↓reduceIte, c_lf, c_hc, c_hol, e3, e1]
