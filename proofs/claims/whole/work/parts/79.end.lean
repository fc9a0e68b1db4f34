/-! The law, to its end. -/
theorem w_one {L d i c : Nat} {xs : Nat → Int32} {h : am_H} (hL : L ≤ 2560) (hi : i + 5 ≤ L) (hc : c < 512) (hI : INV (some (.inl (.int, L, .inl xs))) c h) : ∃ h2, INV (some (.inl (.int, L, .inl xs))) (c + 1) h2 ∧ am_X (ev (d + 600)) BL_0 (BL_18, [some (.ref 0), some (.ref 1), some (.ref 18), some (.int (nI i))], [], h) = am_X (ev (d + 600)) BL_0 (BL_18, [some (.ref 0), some (.ref 1), some (.ref 18), some (.int (nI (i + 5)))], [], h2) := by
  obtain ⟨j, h32, hj⟩ := pk_andE (xs i) (m := 31) 5 (by decide)
  have h32 : j < 32 := h32
  by_cases h26 : 26 ≤ j
  · exact w_none hL hi hI h26 h32 hj
  · have hcs : j = 0 ∨ j = 1 ∨ j = 2 ∨ j = 3 ∨ j = 4 ∨ j = 5 ∨ j = 6 ∨ j = 7 ∨ j = 8 ∨ j = 9 ∨ j = 10 ∨ j = 11 ∨ j = 12 ∨ j = 13 ∨ j = 14 ∨ j = 15 ∨ j = 16 ∨ j = 17 ∨ j = 18 ∨ j = 19 ∨ j = 20 ∨ j = 21 ∨ j = 22 ∨ j = 23 ∨ j = 24 ∨ j = 25 := by omega
    rcases hcs with rfl | rfl | rfl | rfl | rfl | rfl | rfl | rfl | rfl | rfl | rfl | rfl | rfl | rfl | rfl | rfl | rfl | rfl | rfl | rfl | rfl | rfl | rfl | rfl | rfl | rfl
    · exact w_record hL hi hc hI hj
    · exact w_choice hL hi hc hI hj
    · exact w_box hL hi hc hI hj
    · exact w_tie hL hi hc hI hj
    · exact w_row hL hi hc hI hj
    · exact w_about hL hi hc hI hj
    · exact w_number hL hi hc hI hj
    · exact w_make hL hi hc hI hj
    · exact w_gather hL hi hc hI hj
    · exact w_open hL hi hc hI hj
    · exact w_apart hL hi hc hI hj
    · exact w_drop hL hi hc hI hj
    · exact w_store hL hi hc hI hj
    · exact w_load hL hi hc hI hj
    · exact w_set hL hi hc hI hj
    · exact w_swap hL hi hc hI hj
    · exact w_push hL hi hc hI hj
    · exact w_pop hL hi hc hI hj
    · exact w_enter hL hi hc hI hj
    · exact w_leave hL hi hc hI hj
    · exact w_fail hL hi hc hI hj
    · exact w_shape hL hi hc hI hj
    · exact w_look hL hi hc hI hj
    · exact w_state hL hi hc hI hj
    · exact w_out hL hi hc hI hj
    · exact w_count hL hi hc hI hj
theorem neg5 : ∀ L, L < 5 → (nI L - nI 5).toInt < 0 := by decide
theorem w_end {L d i : Nat} {xs : Nat → Int32} {h : am_H} (hL : L ≤ 2560) (hi : L < i + 5) (hi2 : i ≤ 2560) (h0 : h.2.2 0 = (some (.inl (.int, L, .inl xs)))) : am_X (ev (d + 600)) BL_0 (BL_18, [some (.ref 0), some (.ref 1), some (.ref 18), some (.int (nI i))], [], h) = some (some (.int (nI 1)), h) := by
  have hln := ln_0 h0
  have hlt : (nI L - nI 5 < nI i) = True := by
    apply eq_true
    rcases Nat.lt_or_ge L 5 with q | q
    · rw [Int32.lt_iff_toInt_lt, nI_toInt (show i < 2 ^ 31 by omega)]
      have := neg5 L q
      omega
    · rw [i_sub q]
      exact nI_lt (by omega) (by omega)
  rw [uBL_18]
  rw [x_iload_3, x_aload_0, x_alen, hln]
  simp (disch := first | exact q_two_i _ | exact q_two_r _ | exact q_two_n | exact q_sh0 | exact q_sh1 _ | exact q_sh2 _ _ | exact q_sh3 _ _ _ | exact q_sh4 _ _ _ _ | exact c_cl_0 .. | exact c_cl_1 .. | exact c_cl_2 .. | exact c_cl_3 .. | exact c_cl_4 .. | exact c_tc_4_4 _ | exact c_tc_4_5 _ | exact c_tc_3_3 _ | exact c_tc_2_4 _ | exact c_tc_2_5 _ | exact c_tc_1_3 _ | exact c_tc_1_4 _ | exact c_tc_0_4 _ | exact c_tc_0_5 _ | exact c_tc_0_6 _ | exact z_01 | exact z_11 | exact nz_24 | exact nz_16 | assumption | omega) only [x_iconst, x_isub, n_5]
  rw [x_ic_gt]
  rw [if_pos (of_eq_true hlt), jBL_940, uBL_940]
  simp (disch := first | exact q_two_i _ | exact q_two_r _ | exact q_two_n | exact q_sh0 | exact q_sh1 _ | exact q_sh2 _ _ | exact q_sh3 _ _ _ | exact q_sh4 _ _ _ _ | exact c_cl_0 .. | exact c_cl_1 .. | exact c_cl_2 .. | exact c_cl_3 .. | exact c_cl_4 .. | exact c_tc_4_4 _ | exact c_tc_4_5 _ | exact c_tc_3_3 _ | exact c_tc_2_4 _ | exact c_tc_2_5 _ | exact c_tc_1_3 _ | exact c_tc_1_4 _ | exact c_tc_0_4 _ | exact c_tc_0_5 _ | exact c_tc_0_6 _ | exact z_01 | exact z_11 | exact nz_24 | exact nz_16 | assumption | omega) only [x_iconst, x_ret_0, x_ret_1, n_1, n_0, n_1, n_2, n_3, n_4, n_5, n_6, n_7, n_8, n_9, n_10, n_12, n_13, n_15, n_16, n_20, n_24, n_60, n_64, n_72, n_96, n_192, n_256, n_400, n_808, n_960, n_1440, n_2048, n_2720, n_16777215, n_1000000]
theorem w_loop {L d : Nat} {xs : Nat → Int32} (hL : L ≤ 2560) : ∀ (k c i : Nat) (h : am_H), L < i + 5 * (k + 1) → i = 5 * c → c + k ≤ 512 → INV (some (.inl (.int, L, .inl xs))) c h → ∃ h' c', INV (some (.inl (.int, L, .inl xs))) c' h' ∧ c' ≤ 512 ∧ am_X (ev (d + 600)) BL_0 (BL_18, [some (.ref 0), some (.ref 1), some (.ref 18), some (.int (nI i))], [], h) = some (some (.int (nI 1)), h') := by
  intro k
  induction k with
  | zero =>
    intro c i h h1 h2 h3 hI
    exact ⟨h, c, hI, by omega, w_end hL (by omega) (by omega) (inv_h hI).1⟩
  | succ k ih' =>
    intro c i h h1 h2 h3 hI
    by_cases hi : i + 5 ≤ L
    · obtain ⟨h2', hI2, e⟩ := w_one (d := d) hL hi (by omega) hI
      obtain ⟨h', c', a1, a2, a3⟩ := ih' (c + 1) (i + 5) h2' (by omega) (by omega) (by omega) hI2
      exact ⟨h', c', a1, a2, e.trans a3⟩
    · exact ⟨h, c, hI, by omega, w_end hL (by omega) (by omega) (inv_h hI).1⟩
theorem w_run {L : Nat} {xs : Nat → Int32} (hL : L ≤ 2560) : ∃ h', h'.1 ≤ 600000 ∧ h'.2.1 ≤ 7302250 ∧ am_X (am_ev am_ms 600) BL_0 (BL_0, [some (.ref 0), none, none, none], [], am_h0 L xs) = some (some (.int 1), h') := by
  obtain ⟨h, hI, e⟩ := lw_0 (L := L) (d := 0) (xs := xs)
  obtain ⟨h', c', a1, a2, a3⟩ := w_loop (d := 0) hL (L / 5) 0 0 h (by omega) (by omega) (by omega) hI
  have hb := inv_h a1
  exact ⟨h', by omega, by omega, e.trans a3⟩
