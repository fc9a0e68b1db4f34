/-! The calls, from the invariant. -/
theorem v_record {e0 : Option am_E} {c d : Nat} {h : am_H} (hI : INV e0 c h) (hc : c < 512) (t : Nat) (ht : t = 0 ∨ t = 1) (a b x : Int32) : SS e0 (d + 600) 59 109 [.int (nI t), .int a, .int b, .int x] c h := by
  obtain ⟨kn, ks, zs, ps, ce, bt, rt, rl, nb, nr, hsh, hst, ssh, ih, th, wt, os, wn, oc, dr, tm, fa, ko, q1, q2, q3, cp, so, ki, nu, no, sp, hn, sl, ah, isl, inn, atk, R, fl, g, n, m, rfl, hST, hN, hB, hg⟩ := hI
  exact s_record hST hN hg hB t ht a b x
theorem v_choice {e0 : Option am_E} {c d : Nat} {h : am_H} (hI : INV e0 c h) (hc : c < 512) (a b x : Int32) : SS e0 (d + 600) 60 110 [.int a, .int b, .int x] c h := by
  obtain ⟨kn, ks, zs, ps, ce, bt, rt, rl, nb, nr, hsh, hst, ssh, ih, th, wt, os, wn, oc, dr, tm, fa, ko, q1, q2, q3, cp, so, ki, nu, no, sp, hn, sl, ah, isl, inn, atk, R, fl, g, n, m, rfl, hST, hN, hB, hg⟩ := hI
  exact s_choice hST hN hg hB a b x
theorem v_box {e0 : Option am_E} {c d : Nat} {h : am_H} (hI : INV e0 c h) (hc : c < 512) (a : Int32) : SS e0 (d + 600) 61 111 [.int a] c h := by
  obtain ⟨kn, ks, zs, ps, ce, bt, rt, rl, nb, nr, hsh, hst, ssh, ih, th, wt, os, wn, oc, dr, tm, fa, ko, q1, q2, q3, cp, so, ki, nu, no, sp, hn, sl, ah, isl, inn, atk, R, fl, g, n, m, rfl, hST, hN, hB, hg⟩ := hI
  exact s_box hST hN hg hB a
theorem v_tie {e0 : Option am_E} {c d : Nat} {h : am_H} (hI : INV e0 c h) (hc : c < 512) (a b : Int32) : SS e0 (d + 600) 62 112 [.int a, .int b] c h := by
  obtain ⟨kn, ks, zs, ps, ce, bt, rt, rl, nb, nr, hsh, hst, ssh, ih, th, wt, os, wn, oc, dr, tm, fa, ko, q1, q2, q3, cp, so, ki, nu, no, sp, hn, sl, ah, isl, inn, atk, R, fl, g, n, m, rfl, hST, hN, hB, hg⟩ := hI
  exact s_tie hST hN hg hB a b
theorem v_row {e0 : Option am_E} {c d : Nat} {h : am_H} (hI : INV e0 c h) (hc : c < 512) (a : Int32) : SS e0 (d + 600) 63 113 [.int a] c h := by
  obtain ⟨kn, ks, zs, ps, ce, bt, rt, rl, nb, nr, hsh, hst, ssh, ih, th, wt, os, wn, oc, dr, tm, fa, ko, q1, q2, q3, cp, so, ki, nu, no, sp, hn, sl, ah, isl, inn, atk, R, fl, g, n, m, rfl, hST, hN, hB, hg⟩ := hI
  exact s_row hST hN hg hB a
theorem v_about {e0 : Option am_E} {c d : Nat} {h : am_H} (hI : INV e0 c h) (hc : c < 512) (a b : Int32) : SS e0 (d + 600) 64 114 [.int a, .int b] c h := by
  obtain ⟨kn, ks, zs, ps, ce, bt, rt, rl, nb, nr, hsh, hst, ssh, ih, th, wt, os, wn, oc, dr, tm, fa, ko, q1, q2, q3, cp, so, ki, nu, no, sp, hn, sl, ah, isl, inn, atk, R, fl, g, n, m, rfl, hST, hN, hB, hg⟩ := hI
  exact s_about hST hN hg hB a b
theorem v_number {e0 : Option am_E} {c d : Nat} {h : am_H} (hI : INV e0 c h) (hc : c < 512) (v : Int64) : SS e0 (d + 600) 65 126 [.long v] c h := by
  obtain ⟨kn, ks, zs, ps, ce, bt, rt, rl, nb, nr, hsh, hst, ssh, ih, th, wt, os, wn, oc, dr, tm, fa, ko, q1, q2, q3, cp, so, ki, nu, no, sp, hn, sl, ah, isl, inn, atk, R, fl, g, n, m, rfl, hST, hN, hB, hg⟩ := hI
  exact s_number hST hN hg hB hc v
theorem v_make {e0 : Option am_E} {c d : Nat} {h : am_H} (hI : INV e0 c h) (hc : c < 512) (a b : Int32) : SS e0 (d + 600) 66 129 [.int a, .int b] c h := by
  obtain ⟨kn, ks, zs, ps, ce, bt, rt, rl, nb, nr, hsh, hst, ssh, ih, th, wt, os, wn, oc, dr, tm, fa, ko, q1, q2, q3, cp, so, ki, nu, no, sp, hn, sl, ah, isl, inn, atk, R, fl, g, n, m, rfl, hST, hN, hB, hg⟩ := hI
  have hk := hST.1.2
  rcases i_cs kn a (by omega) with ⟨s, hs, rfl⟩ | hx
  · have h5 := (hST.1.1.2 s hs).1
    have tk : (ks s = 1 ∨ ks s = 2) ∨ ks s = 3 ∨ ks s = 4 ∨ (ks s = 0 ∨ ks s = 5) := by omega
    rcases tk with tk | tk | tk | tk
    · exact s_mkR hST hN hg hB hc s b hs tk
    · exact s_mkC hST hN hg hB hc s b hs tk
    · exact s_mkB hST hN hg hB hc s b hs tk
    · exact s_mkO hST hN hg hB s b hs tk
  · exact s_mkX hST hN hg hB a b hx
theorem v_gather {e0 : Option am_E} {c d : Nat} {h : am_H} (hI : INV e0 c h) (hc : c < 512) (a b : Int32) : SS e0 (d + 600) 67 130 [.int a, .int b] c h := by
  obtain ⟨kn, ks, zs, ps, ce, bt, rt, rl, nb, nr, hsh, hst, ssh, ih, th, wt, os, wn, oc, dr, tm, fa, ko, q1, q2, q3, cp, so, ki, nu, no, sp, hn, sl, ah, isl, inn, atk, R, fl, g, n, m, rfl, hST, hN, hB, hg⟩ := hI
  exact s_gather hST hN hg hB hc a b
theorem v_open {e0 : Option am_E} {c d : Nat} {h : am_H} (hI : INV e0 c h) (hc : c < 512)  : SS e0 (d + 600) 68 131 [] c h := by
  obtain ⟨kn, ks, zs, ps, ce, bt, rt, rl, nb, nr, hsh, hst, ssh, ih, th, wt, os, wn, oc, dr, tm, fa, ko, q1, q2, q3, cp, so, ki, nu, no, sp, hn, sl, ah, isl, inn, atk, R, fl, g, n, m, rfl, hST, hN, hB, hg⟩ := hI
  exact s_open hST hN hg hB 
theorem v_apart {e0 : Option am_E} {c d : Nat} {h : am_H} (hI : INV e0 c h) (hc : c < 512)  : SS e0 (d + 600) 69 132 [] c h := by
  obtain ⟨kn, ks, zs, ps, ce, bt, rt, rl, nb, nr, hsh, hst, ssh, ih, th, wt, os, wn, oc, dr, tm, fa, ko, q1, q2, q3, cp, so, ki, nu, no, sp, hn, sl, ah, isl, inn, atk, R, fl, g, n, m, rfl, hST, hN, hB, hg⟩ := hI
  exact s_apart hST hN hg hB 
theorem v_drop {e0 : Option am_E} {c d : Nat} {h : am_H} (hI : INV e0 c h) (hc : c < 512)  : SS e0 (d + 600) 70 133 [] c h := by
  obtain ⟨kn, ks, zs, ps, ce, bt, rt, rl, nb, nr, hsh, hst, ssh, ih, th, wt, os, wn, oc, dr, tm, fa, ko, q1, q2, q3, cp, so, ki, nu, no, sp, hn, sl, ah, isl, inn, atk, R, fl, g, n, m, rfl, hST, hN, hB, hg⟩ := hI
  exact s_drop hST hN hg hB hc 
theorem v_store {e0 : Option am_E} {c d : Nat} {h : am_H} (hI : INV e0 c h) (hc : c < 512) (a : Int32) : SS e0 (d + 600) 71 134 [.int a] c h := by
  obtain ⟨kn, ks, zs, ps, ce, bt, rt, rl, nb, nr, hsh, hst, ssh, ih, th, wt, os, wn, oc, dr, tm, fa, ko, q1, q2, q3, cp, so, ki, nu, no, sp, hn, sl, ah, isl, inn, atk, R, fl, g, n, m, rfl, hST, hN, hB, hg⟩ := hI
  exact s_store hST hN hg hB hc a
theorem v_load {e0 : Option am_E} {c d : Nat} {h : am_H} (hI : INV e0 c h) (hc : c < 512) (a : Int32) : SS e0 (d + 600) 72 135 [.int a] c h := by
  obtain ⟨kn, ks, zs, ps, ce, bt, rt, rl, nb, nr, hsh, hst, ssh, ih, th, wt, os, wn, oc, dr, tm, fa, ko, q1, q2, q3, cp, so, ki, nu, no, sp, hn, sl, ah, isl, inn, atk, R, fl, g, n, m, rfl, hST, hN, hB, hg⟩ := hI
  exact s_load hST hN hg hB hc a
theorem v_set {e0 : Option am_E} {c d : Nat} {h : am_H} (hI : INV e0 c h) (hc : c < 512) (a b : Int32) : SS e0 (d + 600) 73 136 [.int a, .int b] c h := by
  obtain ⟨kn, ks, zs, ps, ce, bt, rt, rl, nb, nr, hsh, hst, ssh, ih, th, wt, os, wn, oc, dr, tm, fa, ko, q1, q2, q3, cp, so, ki, nu, no, sp, hn, sl, ah, isl, inn, atk, R, fl, g, n, m, rfl, hST, hN, hB, hg⟩ := hI
  exact s_set hST hN hg hB hc a b
theorem v_swap {e0 : Option am_E} {c d : Nat} {h : am_H} (hI : INV e0 c h) (hc : c < 512) (a b : Int32) : SS e0 (d + 600) 74 137 [.int a, .int b] c h := by
  obtain ⟨kn, ks, zs, ps, ce, bt, rt, rl, nb, nr, hsh, hst, ssh, ih, th, wt, os, wn, oc, dr, tm, fa, ko, q1, q2, q3, cp, so, ki, nu, no, sp, hn, sl, ah, isl, inn, atk, R, fl, g, n, m, rfl, hST, hN, hB, hg⟩ := hI
  exact s_swap hST hN hg hB a b
theorem v_push {e0 : Option am_E} {c d : Nat} {h : am_H} (hI : INV e0 c h) (hc : c < 512) (a b : Int32) : SS e0 (d + 600) 75 138 [.int a, .int b] c h := by
  obtain ⟨kn, ks, zs, ps, ce, bt, rt, rl, nb, nr, hsh, hst, ssh, ih, th, wt, os, wn, oc, dr, tm, fa, ko, q1, q2, q3, cp, so, ki, nu, no, sp, hn, sl, ah, isl, inn, atk, R, fl, g, n, m, rfl, hST, hN, hB, hg⟩ := hI
  exact s_push hST hN hg hB a b
theorem v_pop {e0 : Option am_E} {c d : Nat} {h : am_H} (hI : INV e0 c h) (hc : c < 512) (a b : Int32) : SS e0 (d + 600) 76 139 [.int a, .int b] c h := by
  obtain ⟨kn, ks, zs, ps, ce, bt, rt, rl, nb, nr, hsh, hst, ssh, ih, th, wt, os, wn, oc, dr, tm, fa, ko, q1, q2, q3, cp, so, ki, nu, no, sp, hn, sl, ah, isl, inn, atk, R, fl, g, n, m, rfl, hST, hN, hB, hg⟩ := hI
  exact s_pop hST hN hg hB a b
theorem v_enter {e0 : Option am_E} {c d : Nat} {h : am_H} (hI : INV e0 c h) (hc : c < 512) (a : Int32) : SS e0 (d + 600) 77 140 [.int a] c h := by
  obtain ⟨kn, ks, zs, ps, ce, bt, rt, rl, nb, nr, hsh, hst, ssh, ih, th, wt, os, wn, oc, dr, tm, fa, ko, q1, q2, q3, cp, so, ki, nu, no, sp, hn, sl, ah, isl, inn, atk, R, fl, g, n, m, rfl, hST, hN, hB, hg⟩ := hI
  exact s_enter hST hN hg hB hc a
theorem v_leave {e0 : Option am_E} {c d : Nat} {h : am_H} (hI : INV e0 c h) (hc : c < 512) (y : Nat) (hy : y ≤ 1) : SS e0 (d + 600) 78 142 [.int (nI y)] c h := by
  obtain ⟨kn, ks, zs, ps, ce, bt, rt, rl, nb, nr, hsh, hst, ssh, ih, th, wt, os, wn, oc, dr, tm, fa, ko, q1, q2, q3, cp, so, ki, nu, no, sp, hn, sl, ah, isl, inn, atk, R, fl, g, n, m, rfl, hST, hN, hB, hg⟩ := hI
  exact s_leave hST hN hg hB hc y hy
theorem v_fail {e0 : Option am_E} {c d : Nat} {h : am_H} (hI : INV e0 c h) (hc : c < 512)  : SS e0 (d + 600) 79 143 [] c h := by
  obtain ⟨kn, ks, zs, ps, ce, bt, rt, rl, nb, nr, hsh, hst, ssh, ih, th, wt, os, wn, oc, dr, tm, fa, ko, q1, q2, q3, cp, so, ki, nu, no, sp, hn, sl, ah, isl, inn, atk, R, fl, g, n, m, rfl, hST, hN, hB, hg⟩ := hI
  exact s_fail hST hN hg hB hc 
theorem v_shape {e0 : Option am_E} {c d : Nat} {h : am_H} (hI : INV e0 c h) (hc : c < 512) (a b : Int32) : SS e0 (d + 600) 80 144 [.int a, .int b] c h := by
  obtain ⟨kn, ks, zs, ps, ce, bt, rt, rl, nb, nr, hsh, hst, ssh, ih, th, wt, os, wn, oc, dr, tm, fa, ko, q1, q2, q3, cp, so, ki, nu, no, sp, hn, sl, ah, isl, inn, atk, R, fl, g, n, m, rfl, hST, hN, hB, hg⟩ := hI
  exact s_shape hST hN hg hB a b
theorem v_look {e0 : Option am_E} {c d : Nat} {h : am_H} (hI : INV e0 c h) (hc : c < 512) (a b : Int32) : SS e0 (d + 600) 81 145 [.int a, .int b] c h := by
  obtain ⟨kn, ks, zs, ps, ce, bt, rt, rl, nb, nr, hsh, hst, ssh, ih, th, wt, os, wn, oc, dr, tm, fa, ko, q1, q2, q3, cp, so, ki, nu, no, sp, hn, sl, ah, isl, inn, atk, R, fl, g, n, m, rfl, hST, hN, hB, hg⟩ := hI
  exact s_look hST hN hg hB a b
theorem v_state {e0 : Option am_E} {c d : Nat} {h : am_H} (hI : INV e0 c h) (hc : c < 512) (a b : Int32) : SS e0 (d + 600) 82 146 [.int a, .int b] c h := by
  obtain ⟨kn, ks, zs, ps, ce, bt, rt, rl, nb, nr, hsh, hst, ssh, ih, th, wt, os, wn, oc, dr, tm, fa, ko, q1, q2, q3, cp, so, ki, nu, no, sp, hn, sl, ah, isl, inn, atk, R, fl, g, n, m, rfl, hST, hN, hB, hg⟩ := hI
  exact s_state hST hN hg hB a b
theorem v_out {e0 : Option am_E} {c d : Nat} {h : am_H} (hI : INV e0 c h) (hc : c < 512) (a : Int32) : SS e0 (d + 600) 83 147 [.int a] c h := by
  obtain ⟨kn, ks, zs, ps, ce, bt, rt, rl, nb, nr, hsh, hst, ssh, ih, th, wt, os, wn, oc, dr, tm, fa, ko, q1, q2, q3, cp, so, ki, nu, no, sp, hn, sl, ah, isl, inn, atk, R, fl, g, n, m, rfl, hST, hN, hB, hg⟩ := hI
  exact s_out hST hN hg hB a
theorem v_count {e0 : Option am_E} {c d : Nat} {h : am_H} (hI : INV e0 c h) (hc : c < 512) (a : Int32) : SS e0 (d + 600) 84 148 [.int a] c h := by
  obtain ⟨kn, ks, zs, ps, ce, bt, rt, rl, nb, nr, hsh, hst, ssh, ih, th, wt, os, wn, oc, dr, tm, fa, ko, q1, q2, q3, cp, so, ki, nu, no, sp, hn, sl, ah, isl, inn, atk, R, fl, g, n, m, rfl, hST, hN, hB, hg⟩ := hI
  exact s_count hST hN hg hB a
theorem inv_h {e0 : Option am_E} {c : Nat} {h : am_H} (hI : INV e0 c h) : h.2.2 0 = e0 ∧ am_cl h 1 = some 4 ∧ h.1 ≤ 28 + 3 * c ∧ h.2.1 ≤ 20000 + 10260 * c := by
  obtain ⟨kn, ks, zs, ps, ce, bt, rt, rl, nb, nr, hsh, hst, ssh, ih, th, wt, os, wn, oc, dr, tm, fa, ko, q1, q2, q3, cp, so, ki, nu, no, sp, hn, sl, ah, isl, inn, atk, R, fl, g, n, m, rfl, hST, hN, hB, hg⟩ := hI
  have hq := hST.2.2.2.2.2.2.2.2.2.1
  exact ⟨by dsimp only; rw [CO_hi (Or.inr rfl), RO_lo hq.2 (by omega), hg], c_cl_4 .., hB.1, hB.2⟩
theorem inv_m {e0 : Option am_E} {c : Nat} {h : am_H} (hI : INV e0 c h) : INV e0 (c + 1) h := by
  obtain ⟨kn, ks, zs, ps, ce, bt, rt, rl, nb, nr, hsh, hst, ssh, ih, th, wt, os, wn, oc, dr, tm, fa, ko, q1, q2, q3, cp, so, ki, nu, no, sp, hn, sl, ah, isl, inn, atk, R, fl, g, n, m, rfl, hST, hN, hB, hg⟩ := hI
  exact ⟨kn, ks, zs, ps, ce, bt, rt, rl, nb, nr, hsh, hst, ssh, ih, th, wt, os, wn, oc, dr, tm, fa, ko, q1, q2, q3, cp, so, ki, nu, no, sp, hn, sl, ah, isl, inn, atk, R, fl, g, n, m, rfl, ST_mono hST, hN, ⟨by omega, by omega⟩, hg⟩
theorem gi_0 {h : am_H} {L : Nat} {xs : Nat → Int32} (h0 : h.2.2 0 = some (.inl (.int, L, .inl xs))) (hL : L ≤ 2560) : ∀ k, k < L → am_gi h 0 (nI k) = some (xs k) := by
  intro k hk
  unfold am_gi
  rw [h0]
  show (if nI k < 0 ∨ L ≤ (nI k).toNatClampNeg then none else some (xs (nI k).toNatClampNeg)) = _
  rw [if_neg (k_in hk (by omega)), nI_clamp (by omega)]
theorem ln_0 {h : am_H} {L : Nat} {xs : Nat → Int32} (h0 : h.2.2 0 = some (.inl (.int, L, .inl xs))) : am_ln h 0 = some L := by
  unfold am_ln
  rw [h0]
theorem vk_i {j : Nat} {r : Value} (h : vkd j r = true) (h1 : (j == 81 || j == 83) = false) : ∃ x, r = .int x := by
  cases r <;> simp_all [vkd]
theorem vk_l {j : Nat} {r : Value} (h : vkd j r = true) (h1 : (j == 81 || j == 83) = true) : ∃ x, r = .long x := by
  cases r <;> simp_all [vkd]
theorem lg_self (v : Int64) : (lg_cmp v v = nI 0) = True := eq_true ((lg_cmp_eq _ _).mpr rfl)
theorem n_11 : (11 : Int32) = nI 11 := rfl
theorem n_14 : (14 : Int32) = nI 14 := rfl
theorem n_17 : (17 : Int32) = nI 17 := rfl
theorem n_18 : (18 : Int32) = nI 18 := rfl
theorem n_19 : (19 : Int32) = nI 19 := rfl
theorem n_21 : (21 : Int32) = nI 21 := rfl
theorem n_22 : (22 : Int32) = nI 22 := rfl
theorem n_23 : (23 : Int32) = nI 23 := rfl
theorem n_25 : (25 : Int32) = nI 25 := rfl
