/-! push. -/
theorem rF_pu {f : Fo → Nat} {φ : Nat → Nat × Nat → Nat} (h : fA f φ) {R : Nat → Fo} {r b s : Nat} {k : Nat × Nat} {v v' : Int64} {K N : Fo} {p : List Bool} (hr : r < 120) (hb : b < 120) (hrb : r ≠ b) (hp : b_at (R r) p = .inner s k v K N) : rF f (upN (upN R b .leaf) r (b_set k v' (f_app K (R b)) (R r) p)) = rF f R := by
  have e1 := rF_up f R b .leaf hb
  have e2 := rF_up f (upN R b .leaf) r (b_set k v' (f_app K (R b)) (R r) p) hr
  have e3 := fb_A h (k' := k) (v' := v') (K' := f_app K (R b)) p (R r) hp
  have e4 := f_app_A h K (R b)
  rw [h.1] at e1
  rw [upN_n _ _ hrb] at e2
  omega
/-- a row gets one more, class -/
theorem C_push {kn : Nat} {ks zs : Nat → Nat} {ps : Nat → Int32} {ce ce2 : Nat → Int64} {bt rt rl : Nat → Nat} {nb nr : Nat} {R : Nat → Fo} (hS : s_ok kn ks zs ps) (hk : kn ≤ 24) (hT : IT kn ks ps R) (hC : IC1 ks zs ce bt rt rl nb nr R) {r b a : Nat} (hr : r < 120) (hb : b < 120) (hrb : r ≠ b) {p : List Bool} {s x j : Nat} {v v' : Int64} {K N : Fo} (tk : ks s = 5) (hp : b_at (R r) p = .inner s (x, j) v K N) (ha : (b_ad ks zs (R r) p (8 * r, false)).1 = a) (hl : f_len K < 8) (h1 : f_len (R b) = 1) (hT' : f_okT kn ks ps (.inner s (x, j) v K N)) (hoc : f_okC ks zs ce rl (.inner s (x, j) v K .leaf) a false) (hi : ∀ i, i < f_ext zs (R b) false → ce2 (1440 + j * 64 + f_len K * 8 + i) = ce (8 * b + i)) (hii : ∀ c, ¬ (1440 + j * 64 + f_len K * 8 ≤ c ∧ c < 1440 + j * 64 + f_len K * 8 + 8) → ce2 c = ce c) :
    f_okC ks zs ce2 (upN rl j (f_len K + 1)) (b_set (x, j) v' (f_app K (R b)) (R r) p) (8 * r) false ∧ ∀ r', r' < 120 → r' ≠ b → r' ≠ r → f_okC ks zs ce2 (upN rl j (f_len K + 1)) (R r') (8 * r') false := by
  have hpl := plC hS hk hT hC hr hp
  rw [ha] at hpl
  have hone := uC_one hS hT hC hr
  obtain ⟨e, he⟩ : ∃ e, 1440 + j * 64 + f_len K * 8 = e := ⟨_, rfl⟩
  rw [he] at hi hii
  have hbo : ∀ c, e ≤ c ∧ c < e + 8 → c_bo ks c s (x, j) = 1 := fun c hc => by
    unfold c_bo
    dsimp only
    rw [if_neg (by omega), if_pos (by omega)]
  have hs := (hS.2 s hT'.1).2.2.2.2.1 (Or.inr (Or.inr tk))
  have hin : ∀ c, e ≤ c ∧ c < e + 8 → 1 ≤ uC ks R r c ∧ c ≠ a ∧ c_blk ks c K = 0 ∧ f_cc ks zs c (R r) (8 * r, false) ≤ f_cc ks zs c (.inner s (x, j) v K .leaf) (b_ad ks zs (R r) p (8 * r, false)) := fun c hc => by
    have q1 := hpl c
    have q2 := hbo c hc
    have q3 := hone c
    refine ⟨by omega, fun e => ?_, by omega, q1.2 (by omega)⟩
    have q4 : c_inl c a (zs s) = 1 := c_inl_1 (by omega)
    omega
  have hcb := fun z => fb_Ale (fA_cb ks 5 z) p (R r) hp
  have hcr := fun z => rF_ge (f_cb ks 5 z) R hr
  have hrt := hC.2.2.1
  have hK0 : f_cb ks 5 j K = 0 ∧ f_cb ks 5 j (R r) = 1 := by
    have q1 := hcb j
    have q2 := hcr j
    have q3 := hrt j
    dsimp only at q1
    rw [if_pos ⟨tk, rfl⟩] at q1
    omega
  have hrl : ∀ z, z ≠ j → upN rl j (f_len K + 1) z = rl z := fun z hz => upN_n _ _ hz
  have hoth : ∀ r', r' < 120 → r' ≠ r → (∀ c, 0 < uC ks R r' c → ce2 c = ce c) ∧ ∀ z, 0 < f_cb ks 5 z (R r') → upN rl j (f_len K + 1) z = rl z := fun r' hr' hne => by
    refine ⟨fun c hc => hii c (fun h => ?_), fun z hz => hrl z (fun e => ?_)⟩
    · have q1 := (hin c h).1
      have q2 := uC_two hS hT hC hr' hr hne c
      omega
    · subst e
      have q1 := rF_two (f_cb ks 5 z) R hr' hr hne
      have q2 := hrt z
      omega
  constructor
  · refine okC_set hS hk p (R r) (8 * r, false) (hT r hr).2 hp (hC.1 r hr) ?_ (fun c hc => hii c (fun h => ?_)) (fun z hz => hrl z (fun e => ?_))
    · rw [ha]
      obtain ⟨c1, c2, c3, c4⟩ := hoc.1.2.2.2.2 tk
      refine ⟨⟨fun h => by omega, fun h => by omega, fun h => by omega, fun h => by omega, fun _ => ⟨?_, c2, ?_, ?_⟩⟩, trivial⟩
      · rw [hii a (fun h => (hin a h).2.1 rfl)]; exact c1
      · rw [upN_s, f_app_len, h1]
      · refine (f_app_C _ _ _ _).mpr ⟨okC_fr hS K _ _ hT'.2.2.1 c4 (fun c hc => hii c (fun h => ?_)) (fun z hz => hrl z (fun e => ?_)), okC_w (by omega) (f_okC_mv hS hk (R b) (8 * b) _ false (hT b hb).2 (hC.1 b hb) (fun i hi' => ?_) (fun z hz i hi' => ?_) (fun z hz => ⟨?_, fun i hi' => ?_⟩))⟩
        · have q1 := f_cc_le hS hk c K (1440 + j * 64, true) hT'.2.2.1
          have q2 := (hin c h).2.2.1
          dsimp only at q1 hc
          rw [f_extT] at q1
          have q3 : c_inl c (1440 + j * 64) (8 * f_len K) = 0 := if_neg (by omega)
          omega
        · subst e; omega
        · rw [f_extT, show 1440 + j * 64 + 8 * f_len K = e by omega]; exact hi i hi'
        · refine (hoth b hb (Ne.symm hrb)).1 _ ?_
          have := blk4 hz hi'
          unfold uC; omega
        · exact (hoth b hb (Ne.symm hrb)).2 z hz
        · refine (hoth b hb (Ne.symm hrb)).1 _ ?_
          have := blk5 hz hi'
          unfold uC; omega
    · have := (hin c h).2.2.2
      omega
    · subst e
      have q : f_cb ks 5 z (.inner s (x, z) v K .leaf) = (if ks s = 5 ∧ z = z then 1 else 0) + f_cb ks 5 z K + 0 := rfl
      rw [if_pos ⟨tk, rfl⟩] at q
      omega
  · intro r' hr' hb' hne
    refine okC_fr hS (R r') (8 * r') false (hT r' hr').2 (hC.1 r' hr') (fun c hc => (hoth r' hr' hne).1 c ?_) (hoth r' hr' hne).2
    have := uC_cc hS hk hT hr' c
    omega
theorem s_push {e0 : Option am_E} {d c n m : Nat} {kn : Nat} {ks zs : Nat → Nat} {ps : Nat → Int32} {ce : Nat → Int64} {bt rt rl : Nat → Nat} {nb nr : Nat} {hsh hst : Nat → Nat} {ssh : Nat → Int32} {ih th : Nat} {wt : Nat → Nat} {os : Nat → Int64} {wn oc dr tm : Nat} {fa : Int32} {ko : Nat → Int32} {q1 q2 q3 cp : Nat} {so ki : Nat → Nat} {nu : Nat → Int64} {no sp : Nat} {hn sl ah : Nat → Nat} {isl inn atk : Nat} {g : Nat → Option am_E} {R : Nat → Fo} {fl : List Nat} (hI : ST c kn ks zs ps ce bt rt rl nb nr hsh hst ssh ih th oc ko q1 q2 q3 cp so ki nu no sp hn sl ah R fl) (hN : NQ n q1 q2 q3) (hg : g 0 = e0) (hB : n ≤ 28 + 3 * c ∧ m ≤ 20000 + 10260 * c) (xs xp : Int32) : SS e0 (d + 600) 75 138 [.int xs, .int xp] c (n, m, CO kn ks zs ps ce bt rt rl nb nr hsh hst ssh ih th wt os wn oc dr tm fa (RO kn ks zs ko q1 q2 q3 cp so ki nu no sp hn sl ah ih th os oc nb nr tm dr isl inn atk g)) := by
  obtain ⟨⟨hS, hk⟩, hK, hF, hT, hL, hC, hR, hO, hBd, ⟨hq, hq17⟩, hcp⟩ := id hI
  have hB1 : n ≤ 28 + 3 * (c + 1) ∧ m ≤ 20000 + 10260 * (c + 1) := ⟨by omega, by omega⟩
  obtain ⟨⟨f1, f2⟩, f3, f4, f5, f6, f7⟩ := id hF
  obtain ⟨b0, hb0⟩ : ∃ b0, hst (th - 1) = b0 := ⟨_, rfl⟩
  have hb3 : b0 ≤ ih := by rw [← hb0]; exact f6
  have ha0 : ah th = b0 := by rw [← hb0, ← f7 (th - 1) (by omega), Nat.sub_add_cancel f1]
  have hb4 : ah th ≤ ih := by rw [ha0]; exact hb3
  have f0 : 0 < th := f1
  have f13 : th < 13 := by omega
  obtain ⟨G0, hG0⟩ : ∃ G0, RO kn ks zs ko q1 q2 q3 cp so ki nu no sp hn sl ah ih th os oc nb nr tm dr isl inn atk g = G0 := ⟨_, rfl⟩
  have hcp1 := hcp.1
  rcases sk (kn := kn) (ks := ks) (zs := zs) (ps := ps) (ce := ce) (bt := bt) (rt := rt) (rl := rl) (nb := nb) (nr := nr) (hsh := hsh) (hst := hst) (ssh := ssh) (ih := ih) (th := th) (wt := wt) (os := os) (wn := wn) (oc := oc) (dr := dr) (tm := tm) (fa := fa) (ko := ko) (q1 := q1) (q2 := q2) (q3 := q3) (cp := cp) (so := so) (ki := ki) (nu := nu) (no := no) (sp := sp) (hn := hn) (sl := sl) (ah := ah) (isl := isl) (inn := inn) (atk := atk) hI xs xp with ⟨h1, h2⟩ | ⟨j0, p, s, x, j, v, K, N, hj, hp, h1, h2⟩
  · obtain ⟨y, e1⟩ := h1 G0 n m (d + 593)
    obtain ⟨G1, hG1⟩ : ∃ G1, CO kn ks zs ps ce bt rt rl nb nr hsh hst ssh ih th wt os wn oc dr tm (y) g = G1 := ⟨_, rfl⟩
    obtain ⟨i1, i2, i3, e2⟩ := h2 G1 n m (d + 597)
    exact SS_mk1 (hoq := hq) (kn' := kn) (ks' := ks) (zs' := zs) (ps' := ps) (ce' := ce) (bt' := bt) (rt' := rt) (rl' := rl) (nb' := nb) (nr' := nr) (hsh' := hsh) (hst' := hst) (ssh' := ssh) (ih' := ih) (th' := th) (wt' := wt) (os' := os) (wn' := wn) (oc' := oc) (dr' := dr) (tm' := tm) (fa' := y) (ko' := ko) (q1' := q1) (q2' := q2) (q3' := q3) (cp' := cp) (so' := so) (ki' := ki) (nu' := nu) (no' := no) (sp' := sp) (hn' := hn) (sl' := sl) (ah' := ah) (isl' := i1) (inn' := i2) (atk' := i3) hq17 hg hG0 hG1 (r := .int mI) (by simp (disch := first | exact q_two_i _ | exact q_two_r _ | exact q_two_n | exact q_sh0 | exact q_sh1 _ | exact q_sh2 _ _ | exact q_sh3 _ _ _ | exact q_sh4 _ _ _ _ | exact c_cl_0 .. | exact c_cl_1 .. | exact c_cl_2 .. | exact c_cl_3 .. | exact c_cl_4 .. | exact c_tc_4_4 _ | exact c_tc_4_5 _ | exact c_tc_3_3 _ | exact c_tc_2_4 _ | exact c_tc_2_5 _ | exact c_tc_1_3 _ | exact c_tc_1_4 _ | exact c_tc_0_4 _ | exact c_tc_0_5 _ | exact c_tc_0_6 _ | exact z_01 | exact z_11 | exact nz_24 | exact nz_16 | assumption | omega) only [eB4_push, x_aload_0, x_iload_1, x_iload_2, x_iv_2, x_kx1, x_kx0, x_istore_3, x_getf, c_gf_4_0, x_iload_3, x_iconst, x_istore_4, x_iv_1, x_ic_ne, x_iload_4, c_gf_4_2, x_iv_0, x_ic_eq, x_ret_i, c_gf_4_1, c_gf_4_5, x_lstore_5, x_lload_5, x_istore_7, x_iload_7, x_bipush, x_ic_lt, x_iv_3, x_iadd, jB4_push_42, jB4_push_44, jB4_push_78, uB4_push_0, uB4_push_42, uB4_push_44, uB4_push_78, uB4_push_127, n_0, n_1, n_2, n_3, n_4, n_5, n_6, n_7, n_8, n_9, n_10, n_12, n_13, n_15, n_16, n_20, n_24, n_60, n_64, n_72, n_96, n_192, n_256, n_400, n_808, n_960, n_1440, n_2048, n_2720, n_16777215, n_1000000, l_0, l_1, l_8, l_20, l_60, l_lt_t, l_lt_f, l_ge_t, l_ge_f, l_eq_t, l_eq_f, lN_i, nI_l, i_lt_t, i_lt_f, i_le_t, i_le_f, i_eq_t, i_eq_f, ↓n_m1, ↓n_m2, i_m1, i_m1s, i_m1lt, i_m1le, i_m1l2, i_m1l3, i_mm, nI_add, pk_mul, i_sub, i_dec, i_dec0, i_s01, i_div, Nat.reduceAdd, Nat.reduceSub, Nat.reduceMul, Nat.zero_add, if_true, if_false, not_true, not_false_eq_true, ↓reduceIte, e1, c_partM, c_kindM]) (by simp (disch := first | exact q_two_i _ | exact q_two_r _ | exact q_two_n | exact q_sh0 | exact q_sh1 _ | exact q_sh2 _ _ | exact q_sh3 _ _ _ | exact q_sh4 _ _ _ _ | exact c_cl_5 hq | exact c_tc_5_3 _ | exact c_tc_5_7 _ | exact c_tc_5_8 _ | exact c_tc_5_12 _ | exact c_tc_5_13 _ | exact c_tc_5_15 _ | exact c_tc_5_16 _ | exact c_tc_5_17 _ | exact c_tc_5_18 _ | exact c_tc_5_19 _ | exact c_tc_5_21 _ | exact c_tc_5_22 _ | exact c_tc_5_20a | exact c_tc_5_20b | exact z_01 | exact z_11 | exact nz_24 | exact nz_16 | assumption | omega) only [eB5_push, x_aload_0, x_iload_1, x_iload_2, x_iv_2, x_kx1, x_kx0, x_istore_3, x_iload_3, x_if_eq, x_iv_1, x_iconst, x_ic_ne, x_iv_0, x_ic_lt, x_getf, c_gf_5_4, x_iaload, c_gf_5_2, x_imul, x_ic_eq, x_ret_i, c_gf_5_6, x_laload, x_ldc2_w, x_lcmp, x_if_ne, x_bipush, x_dup_int, x_dup_ref, c_gf_5_12, x_isub, x_putf, c_pf_5_12, c_gf_5_5, x_l2i, x_iadd, c_gf_5_9, x_iastore, x_dup2, x_lconst, x_ladd, x_lastore, jB5_push_54, jB5_push_56, jB5_push_72, uB5_push_0, uB5_push_42, uB5_push_54, uB5_push_56, uB5_push_72, uB5_push_109, n_0, n_1, n_2, n_3, n_4, n_5, n_6, n_7, n_8, n_9, n_10, n_12, n_13, n_15, n_16, n_20, n_24, n_60, n_64, n_72, n_96, n_192, n_256, n_400, n_808, n_960, n_1440, n_2048, n_2720, n_16777215, n_1000000, l_0, l_1, l_8, l_20, l_60, l_lt_t, l_lt_f, l_ge_t, l_ge_f, l_eq_t, l_eq_f, lN_i, nI_l, i_lt_t, i_lt_f, i_le_t, i_le_f, i_eq_t, i_eq_f, ↓n_m1, ↓n_m2, i_m1, i_m1s, i_m1lt, i_m1le, i_m1l2, i_m1l3, i_mm, nI_add, pk_mul, i_sub, i_dec, i_dec0, i_s01, i_div, Nat.reduceAdd, Nat.reduceSub, Nat.reduceMul, Nat.zero_add, if_true, if_false, not_true, not_false_eq_true, ↓reduceIte, hq, e2]) ⟨R, fl, ST_mono hI⟩ hN hB1
  obtain ⟨⟨p1, p2, p3⟩, ⟨p4, p5, p6⟩, ⟨p7, p8, p9⟩, p10, p11⟩ := pl hI hj hp
  have e1 := h1 G0 n m (d + 593)
  have p12 := b_ad_ge (ks := ks) (zs := zs) p (R (24 + j0)) (8 * (24 + j0), false) (by dsimp only; omega)
  have pC : f_okC ks zs ce rl (.inner s (x, j) v K .leaf) (b_ad ks zs (R (24 + j0)) p (8 * (24 + j0), false)).1 false := ⟨p10.2.1.1, trivial⟩
  have pT := p10.1
  dsimp only at pT
  obtain ⟨a, hy⟩ : ∃ a, (b_ad ks zs (R (24 + j0)) p (8 * (24 + j0), false)).1 = a := ⟨_, rfl⟩
  rw [hy] at e1 p11 p12 pC
  have hs24 : s < 24 := by omega
  have hsx : so x < 24 := by omega
  have hx0 : x ≠ 0 := by omega
  have hx5 : x < 100000 := by omega
  obtain ⟨y1, y2, y3, y4, y5, y6, y7, y8, y9⟩ := hS.2 s p1
  have ha : a < 2720 := by omega
  by_cases tk : ks s = 5
  rotate_left
  · obtain ⟨G1, hG1⟩ : ∃ G1, CO kn ks zs ps ce bt rt rl nb nr hsh hst ssh ih th wt os wn oc dr tm (nI a) g = G1 := ⟨_, rfl⟩
    obtain ⟨i1, i2, i3, e2, -⟩ := h2 G1 n m (d + 597)
    exact SS_mk1 (hoq := hq) (kn' := kn) (ks' := ks) (zs' := zs) (ps' := ps) (ce' := ce) (bt' := bt) (rt' := rt) (rl' := rl) (nb' := nb) (nr' := nr) (hsh' := hsh) (hst' := hst) (ssh' := ssh) (ih' := ih) (th' := th) (wt' := wt) (os' := os) (wn' := wn) (oc' := oc) (dr' := dr) (tm' := tm) (fa' := nI a) (ko' := ko) (q1' := q1) (q2' := q2) (q3' := q3) (cp' := cp) (so' := so) (ki' := ki) (nu' := nu) (no' := no) (sp' := sp) (hn' := hn) (sl' := sl) (ah' := ah) (isl' := i1) (inn' := i2) (atk' := i3) hq17 hg hG0 hG1 (r := .int mI) (by simp (disch := first | exact q_two_i _ | exact q_two_r _ | exact q_two_n | exact q_sh0 | exact q_sh1 _ | exact q_sh2 _ _ | exact q_sh3 _ _ _ | exact q_sh4 _ _ _ _ | exact c_cl_0 .. | exact c_cl_1 .. | exact c_cl_2 .. | exact c_cl_3 .. | exact c_cl_4 .. | exact c_tc_4_4 _ | exact c_tc_4_5 _ | exact c_tc_3_3 _ | exact c_tc_2_4 _ | exact c_tc_2_5 _ | exact c_tc_1_3 _ | exact c_tc_1_4 _ | exact c_tc_0_4 _ | exact c_tc_0_5 _ | exact c_tc_0_6 _ | exact z_01 | exact z_11 | exact nz_24 | exact nz_16 | assumption | omega) only [eB4_push, x_aload_0, x_iload_1, x_iload_2, x_iv_2, x_kx1, x_kx0, x_istore_3, x_getf, c_gf_4_0, x_iload_3, x_iconst, x_istore_4, x_iv_1, x_ic_ne, x_iload_4, c_gf_4_2, x_iv_0, x_ic_eq, x_ret_i, c_gf_4_1, c_gf_4_5, x_lstore_5, x_lload_5, x_istore_7, x_iload_7, x_bipush, x_ic_lt, x_iv_3, x_iadd, jB4_push_42, jB4_push_44, jB4_push_78, uB4_push_0, uB4_push_42, uB4_push_44, uB4_push_78, uB4_push_127, n_0, n_1, n_2, n_3, n_4, n_5, n_6, n_7, n_8, n_9, n_10, n_12, n_13, n_15, n_16, n_20, n_24, n_60, n_64, n_72, n_96, n_192, n_256, n_400, n_808, n_960, n_1440, n_2048, n_2720, n_16777215, n_1000000, l_0, l_1, l_8, l_20, l_60, l_lt_t, l_lt_f, l_ge_t, l_ge_f, l_eq_t, l_eq_f, lN_i, nI_l, i_lt_t, i_lt_f, i_le_t, i_le_f, i_eq_t, i_eq_f, ↓n_m1, ↓n_m2, i_m1, i_m1s, i_m1lt, i_m1le, i_m1l2, i_m1l3, i_mm, nI_add, pk_mul, i_sub, i_dec, i_dec0, i_s01, i_div, Nat.reduceAdd, Nat.reduceSub, Nat.reduceMul, Nat.zero_add, if_true, if_false, not_true, not_false_eq_true, ↓reduceIte, e1, c_part, c_kind, tk]) (by simp (disch := first | exact q_two_i _ | exact q_two_r _ | exact q_two_n | exact q_sh0 | exact q_sh1 _ | exact q_sh2 _ _ | exact q_sh3 _ _ _ | exact q_sh4 _ _ _ _ | exact c_cl_5 hq | exact c_tc_5_3 _ | exact c_tc_5_7 _ | exact c_tc_5_8 _ | exact c_tc_5_12 _ | exact c_tc_5_13 _ | exact c_tc_5_15 _ | exact c_tc_5_16 _ | exact c_tc_5_17 _ | exact c_tc_5_18 _ | exact c_tc_5_19 _ | exact c_tc_5_21 _ | exact c_tc_5_22 _ | exact c_tc_5_20a | exact c_tc_5_20b | exact z_01 | exact z_11 | exact nz_24 | exact nz_16 | assumption | omega) only [eB5_push, x_aload_0, x_iload_1, x_iload_2, x_iv_2, x_kx1, x_kx0, x_istore_3, x_iload_3, x_if_eq, x_iv_1, x_iconst, x_ic_ne, x_iv_0, x_ic_lt, x_getf, c_gf_5_4, x_iaload, c_gf_5_2, x_imul, x_ic_eq, x_ret_i, c_gf_5_6, x_laload, x_ldc2_w, x_lcmp, x_if_ne, x_bipush, x_dup_int, x_dup_ref, c_gf_5_12, x_isub, x_putf, c_pf_5_12, c_gf_5_5, x_l2i, x_iadd, c_gf_5_9, x_iastore, x_dup2, x_lconst, x_ladd, x_lastore, jB5_push_54, jB5_push_56, jB5_push_72, uB5_push_0, uB5_push_42, uB5_push_54, uB5_push_56, uB5_push_72, uB5_push_109, n_0, n_1, n_2, n_3, n_4, n_5, n_6, n_7, n_8, n_9, n_10, n_12, n_13, n_15, n_16, n_20, n_24, n_60, n_64, n_72, n_96, n_192, n_256, n_400, n_808, n_960, n_1440, n_2048, n_2720, n_16777215, n_1000000, l_0, l_1, l_8, l_20, l_60, l_lt_t, l_lt_f, l_ge_t, l_ge_f, l_eq_t, l_eq_f, lN_i, nI_l, i_lt_t, i_lt_f, i_le_t, i_le_f, i_eq_t, i_eq_f, ↓n_m1, ↓n_m2, i_m1, i_m1s, i_m1lt, i_m1le, i_m1l2, i_m1l3, i_mm, nI_add, pk_mul, i_sub, i_dec, i_dec0, i_s01, i_div, Nat.reduceAdd, Nat.reduceSub, Nat.reduceMul, Nat.zero_add, if_true, if_false, not_true, not_false_eq_true, ↓reduceIte, hq, e2, m_kind, p4, tk]) ⟨R, fl, ST_mono hI⟩ hN hB1
  obtain ⟨p0, hp02, hp0⟩ := y9 tk
  have hp0' : ps (s * 3) = nI p0 := hp0
  have p24 : p0 < 24 := by omega
  have eK : ko (3 * s) = nI p0 := by rw [hK _ (by omega), Nat.mul_comm]; exact hp0
  by_cases hb1 : b0 = ih
  · subst hb1
    obtain ⟨G1, hG1⟩ : ∃ G1, CO kn ks zs ps ce bt rt rl nb nr hsh hst ssh (b0) th wt os wn oc dr tm (nI a) g = G1 := ⟨_, rfl⟩
    obtain ⟨i1, i2, i3, e2, -⟩ := h2 G1 n m (d + 597)
    exact SS_mk1 (hoq := hq) (kn' := kn) (ks' := ks) (zs' := zs) (ps' := ps) (ce' := ce) (bt' := bt) (rt' := rt) (rl' := rl) (nb' := nb) (nr' := nr) (hsh' := hsh) (hst' := hst) (ssh' := ssh) (ih' := b0) (th' := th) (wt' := wt) (os' := os) (wn' := wn) (oc' := oc) (dr' := dr) (tm' := tm) (fa' := nI a) (ko' := ko) (q1' := q1) (q2' := q2) (q3' := q3) (cp' := cp) (so' := so) (ki' := ki) (nu' := nu) (no' := no) (sp' := sp) (hn' := hn) (sl' := sl) (ah' := ah) (isl' := i1) (inn' := i2) (atk' := i3) hq17 hg hG0 hG1 (r := .int mI) (by simp (disch := first | exact q_two_i _ | exact q_two_r _ | exact q_two_n | exact q_sh0 | exact q_sh1 _ | exact q_sh2 _ _ | exact q_sh3 _ _ _ | exact q_sh4 _ _ _ _ | exact c_cl_0 .. | exact c_cl_1 .. | exact c_cl_2 .. | exact c_cl_3 .. | exact c_cl_4 .. | exact c_tc_4_4 _ | exact c_tc_4_5 _ | exact c_tc_3_3 _ | exact c_tc_2_4 _ | exact c_tc_2_5 _ | exact c_tc_1_3 _ | exact c_tc_1_4 _ | exact c_tc_0_4 _ | exact c_tc_0_5 _ | exact c_tc_0_6 _ | exact z_01 | exact z_11 | exact nz_24 | exact nz_16 | assumption | omega) only [eB4_push, x_aload_0, x_iload_1, x_iload_2, x_iv_2, x_kx1, x_kx0, x_istore_3, x_getf, c_gf_4_0, x_iload_3, x_iconst, x_istore_4, x_iv_1, x_ic_ne, x_iload_4, c_gf_4_2, x_iv_0, x_ic_eq, x_ret_i, c_gf_4_1, c_gf_4_5, x_lstore_5, x_lload_5, x_istore_7, x_iload_7, x_bipush, x_ic_lt, x_iv_3, x_iadd, jB4_push_42, jB4_push_44, jB4_push_78, uB4_push_0, uB4_push_42, uB4_push_44, uB4_push_78, uB4_push_127, n_0, n_1, n_2, n_3, n_4, n_5, n_6, n_7, n_8, n_9, n_10, n_12, n_13, n_15, n_16, n_20, n_24, n_60, n_64, n_72, n_96, n_192, n_256, n_400, n_808, n_960, n_1440, n_2048, n_2720, n_16777215, n_1000000, l_0, l_1, l_8, l_20, l_60, l_lt_t, l_lt_f, l_ge_t, l_ge_f, l_eq_t, l_eq_f, lN_i, nI_l, i_lt_t, i_lt_f, i_le_t, i_le_f, i_eq_t, i_eq_f, ↓n_m1, ↓n_m2, i_m1, i_m1s, i_m1lt, i_m1le, i_m1l2, i_m1l3, i_mm, nI_add, pk_mul, i_sub, i_dec, i_dec0, i_s01, i_div, Nat.reduceAdd, Nat.reduceSub, Nat.reduceMul, Nat.zero_add, if_true, if_false, not_true, not_false_eq_true, ↓reduceIte, e1, c_part, hp0, hp0', c_kind, tk, c_top0]) (by simp (disch := first | exact q_two_i _ | exact q_two_r _ | exact q_two_n | exact q_sh0 | exact q_sh1 _ | exact q_sh2 _ _ | exact q_sh3 _ _ _ | exact q_sh4 _ _ _ _ | exact c_cl_5 hq | exact c_tc_5_3 _ | exact c_tc_5_7 _ | exact c_tc_5_8 _ | exact c_tc_5_12 _ | exact c_tc_5_13 _ | exact c_tc_5_15 _ | exact c_tc_5_16 _ | exact c_tc_5_17 _ | exact c_tc_5_18 _ | exact c_tc_5_19 _ | exact c_tc_5_21 _ | exact c_tc_5_22 _ | exact c_tc_5_20a | exact c_tc_5_20b | exact z_01 | exact z_11 | exact nz_24 | exact nz_16 | assumption | omega) only [eB5_push, x_aload_0, x_iload_1, x_iload_2, x_iv_2, x_kx1, x_kx0, x_istore_3, x_iload_3, x_if_eq, x_iv_1, x_iconst, x_ic_ne, x_iv_0, x_ic_lt, x_getf, c_gf_5_4, x_iaload, c_gf_5_2, x_imul, x_ic_eq, x_ret_i, c_gf_5_6, x_laload, x_ldc2_w, x_lcmp, x_if_ne, x_bipush, x_dup_int, x_dup_ref, c_gf_5_12, x_isub, x_putf, c_pf_5_12, c_gf_5_5, x_l2i, x_iadd, c_gf_5_9, x_iastore, x_dup2, x_lconst, x_ladd, x_lastore, jB5_push_54, jB5_push_56, jB5_push_72, uB5_push_0, uB5_push_42, uB5_push_54, uB5_push_56, uB5_push_72, uB5_push_109, n_0, n_1, n_2, n_3, n_4, n_5, n_6, n_7, n_8, n_9, n_10, n_12, n_13, n_15, n_16, n_20, n_24, n_60, n_64, n_72, n_96, n_192, n_256, n_400, n_808, n_960, n_1440, n_2048, n_2720, n_16777215, n_1000000, l_0, l_1, l_8, l_20, l_60, l_lt_t, l_lt_f, l_ge_t, l_ge_f, l_eq_t, l_eq_f, lN_i, nI_l, i_lt_t, i_lt_f, i_le_t, i_le_f, i_eq_t, i_eq_f, ↓n_m1, ↓n_m2, i_m1, i_m1s, i_m1lt, i_m1le, i_m1l2, i_m1l3, i_mm, nI_add, pk_mul, i_sub, i_dec, i_dec0, i_s01, i_div, Nat.reduceAdd, Nat.reduceSub, Nat.reduceMul, Nat.zero_add, if_true, if_false, not_true, not_false_eq_true, ↓reduceIte, hq, e2, m_kind, p4, tk, m_mine, ha0, Nat.sub_self]) ⟨R, fl, ST_mono hI⟩ hN hB1
  have hb5 : b0 < ih := by omega
  have hge : 1 ≤ ih := by omega
  obtain ⟨s1, x1, j1, v1, K1, a1, ⟨a2, a3⟩, ⟨a4, a5, a6⟩, a7, a8, a9, a10⟩ := h_top hI (r := ih - 1) (by omega)
  have s24 : s1 < 24 := by omega
  have e7 : hn (ih - 1 - 0) = x1 := by rw [Nat.sub_zero, a3]
  have a3' : hn (ih - 1) = x1 := a3
  have a72 := a7.2.2
  by_cases hm : p0 = s1
  rotate_left
  · obtain ⟨G1, hG1⟩ : ∃ G1, CO kn ks zs ps ce bt rt rl nb nr hsh hst ssh ih th wt os wn oc dr tm (nI a) g = G1 := ⟨_, rfl⟩
    obtain ⟨i1, i2, i3, e2, -⟩ := h2 G1 n m (d + 597)
    have hm2 : ¬ s1 = p0 := fun e => hm e.symm
    exact SS_mk1 (hoq := hq) (kn' := kn) (ks' := ks) (zs' := zs) (ps' := ps) (ce' := ce) (bt' := bt) (rt' := rt) (rl' := rl) (nb' := nb) (nr' := nr) (hsh' := hsh) (hst' := hst) (ssh' := ssh) (ih' := ih) (th' := th) (wt' := wt) (os' := os) (wn' := wn) (oc' := oc) (dr' := dr) (tm' := tm) (fa' := nI a) (ko' := ko) (q1' := q1) (q2' := q2) (q3' := q3) (cp' := cp) (so' := so) (ki' := ki) (nu' := nu) (no' := no) (sp' := sp) (hn' := hn) (sl' := sl) (ah' := ah) (isl' := i1) (inn' := i2) (atk' := i3) hq17 hg hG0 hG1 (r := .int mI) (by simp (disch := first | exact q_two_i _ | exact q_two_r _ | exact q_two_n | exact q_sh0 | exact q_sh1 _ | exact q_sh2 _ _ | exact q_sh3 _ _ _ | exact q_sh4 _ _ _ _ | exact c_cl_0 .. | exact c_cl_1 .. | exact c_cl_2 .. | exact c_cl_3 .. | exact c_cl_4 .. | exact c_tc_4_4 _ | exact c_tc_4_5 _ | exact c_tc_3_3 _ | exact c_tc_2_4 _ | exact c_tc_2_5 _ | exact c_tc_1_3 _ | exact c_tc_1_4 _ | exact c_tc_0_4 _ | exact c_tc_0_5 _ | exact c_tc_0_6 _ | exact z_01 | exact z_11 | exact nz_24 | exact nz_16 | assumption | omega) only [eB4_push, x_aload_0, x_iload_1, x_iload_2, x_iv_2, x_kx1, x_kx0, x_istore_3, x_getf, c_gf_4_0, x_iload_3, x_iconst, x_istore_4, x_iv_1, x_ic_ne, x_iload_4, c_gf_4_2, x_iv_0, x_ic_eq, x_ret_i, c_gf_4_1, c_gf_4_5, x_lstore_5, x_lload_5, x_istore_7, x_iload_7, x_bipush, x_ic_lt, x_iv_3, x_iadd, jB4_push_42, jB4_push_44, jB4_push_78, uB4_push_0, uB4_push_42, uB4_push_44, uB4_push_78, uB4_push_127, n_0, n_1, n_2, n_3, n_4, n_5, n_6, n_7, n_8, n_9, n_10, n_12, n_13, n_15, n_16, n_20, n_24, n_60, n_64, n_72, n_96, n_192, n_256, n_400, n_808, n_960, n_1440, n_2048, n_2720, n_16777215, n_1000000, l_0, l_1, l_8, l_20, l_60, l_lt_t, l_lt_f, l_ge_t, l_ge_f, l_eq_t, l_eq_f, lN_i, nI_l, i_lt_t, i_lt_f, i_le_t, i_le_f, i_eq_t, i_eq_f, ↓n_m1, ↓n_m2, i_m1, i_m1s, i_m1lt, i_m1le, i_m1l2, i_m1l3, i_mm, nI_add, pk_mul, i_sub, i_dec, i_dec0, i_s01, i_div, Nat.reduceAdd, Nat.reduceSub, Nat.reduceMul, Nat.zero_add, if_true, if_false, not_true, not_false_eq_true, ↓reduceIte, e1, c_part, hp0, hp0', c_kind, tk, c_top, a2]) (by simp (disch := first | exact q_two_i _ | exact q_two_r _ | exact q_two_n | exact q_sh0 | exact q_sh1 _ | exact q_sh2 _ _ | exact q_sh3 _ _ _ | exact q_sh4 _ _ _ _ | exact c_cl_5 hq | exact c_tc_5_3 _ | exact c_tc_5_7 _ | exact c_tc_5_8 _ | exact c_tc_5_12 _ | exact c_tc_5_13 _ | exact c_tc_5_15 _ | exact c_tc_5_16 _ | exact c_tc_5_17 _ | exact c_tc_5_18 _ | exact c_tc_5_19 _ | exact c_tc_5_21 _ | exact c_tc_5_22 _ | exact c_tc_5_20a | exact c_tc_5_20b | exact z_01 | exact z_11 | exact nz_24 | exact nz_16 | assumption | omega) only [eB5_push, x_aload_0, x_iload_1, x_iload_2, x_iv_2, x_kx1, x_kx0, x_istore_3, x_iload_3, x_if_eq, x_iv_1, x_iconst, x_ic_ne, x_iv_0, x_ic_lt, x_getf, c_gf_5_4, x_iaload, c_gf_5_2, x_imul, x_ic_eq, x_ret_i, c_gf_5_6, x_laload, x_ldc2_w, x_lcmp, x_if_ne, x_bipush, x_dup_int, x_dup_ref, c_gf_5_12, x_isub, x_putf, c_pf_5_12, c_gf_5_5, x_l2i, x_iadd, c_gf_5_9, x_iastore, x_dup2, x_lconst, x_ladd, x_lastore, jB5_push_54, jB5_push_56, jB5_push_72, uB5_push_0, uB5_push_42, uB5_push_54, uB5_push_56, uB5_push_72, uB5_push_109, n_0, n_1, n_2, n_3, n_4, n_5, n_6, n_7, n_8, n_9, n_10, n_12, n_13, n_15, n_16, n_20, n_24, n_60, n_64, n_72, n_96, n_192, n_256, n_400, n_808, n_960, n_1440, n_2048, n_2720, n_16777215, n_1000000, l_0, l_1, l_8, l_20, l_60, l_lt_t, l_lt_f, l_ge_t, l_ge_f, l_eq_t, l_eq_f, lN_i, nI_l, i_lt_t, i_lt_f, i_le_t, i_le_f, i_eq_t, i_eq_f, ↓n_m1, ↓n_m2, i_m1, i_m1s, i_m1lt, i_m1le, i_m1l2, i_m1l3, i_mm, nI_add, pk_mul, i_sub, i_dec, i_dec0, i_s01, i_div, Nat.reduceAdd, Nat.reduceSub, Nat.reduceMul, Nat.zero_add, if_true, if_false, not_true, not_false_eq_true, ↓reduceIte, hq, e2, m_kind, p4, tk, m_mine, ha0, m_top, e7, c_g_q1, a4, c_g_21, eK]) ⟨R, fl, ST_mono hI⟩ hN hB1
  subst hm
  obtain ⟨hv, hl8, hpk⟩ : v = lN (f_len K) ∧ f_len K ≤ 8 ∧ ∀ i, i < f_len K → ps (s * 3 + 0) = nI (f_sh K i) := by
    rcases p2 with q | q | q | q | q
    · omega
    · omega
    · omega
    · omega
    · exact q.2
  obtain ⟨c1, c2, c3, c4⟩ := pC.1.2.2.2.2 tk
  dsimp only at c1 c2 c3 c4
  obtain ⟨l, hl⟩ : ∃ l, f_len K = l := ⟨_, rfl⟩
  rw [hv, hl] at p5
  rw [hl] at c3
  by_cases h8 : l = 8
  · subst h8
    obtain ⟨G1, hG1⟩ : ∃ G1, CO kn ks zs ps ce bt rt rl nb nr hsh hst ssh ih th wt os wn oc dr tm (nI a) g = G1 := ⟨_, rfl⟩
    obtain ⟨i1, i2, i3, e2, -⟩ := h2 G1 n m (d + 597)
    exact SS_mk1 (hoq := hq) (kn' := kn) (ks' := ks) (zs' := zs) (ps' := ps) (ce' := ce) (bt' := bt) (rt' := rt) (rl' := rl) (nb' := nb) (nr' := nr) (hsh' := hsh) (hst' := hst) (ssh' := ssh) (ih' := ih) (th' := th) (wt' := wt) (os' := os) (wn' := wn) (oc' := oc) (dr' := dr) (tm' := tm) (fa' := nI a) (ko' := ko) (q1' := q1) (q2' := q2) (q3' := q3) (cp' := cp) (so' := so) (ki' := ki) (nu' := nu) (no' := no) (sp' := sp) (hn' := hn) (sl' := sl) (ah' := ah) (isl' := i1) (inn' := i2) (atk' := i3) hq17 hg hG0 hG1 (r := .int fI) (by simp (disch := first | exact q_two_i _ | exact q_two_r _ | exact q_two_n | exact q_sh0 | exact q_sh1 _ | exact q_sh2 _ _ | exact q_sh3 _ _ _ | exact q_sh4 _ _ _ _ | exact c_cl_0 .. | exact c_cl_1 .. | exact c_cl_2 .. | exact c_cl_3 .. | exact c_cl_4 .. | exact c_tc_4_4 _ | exact c_tc_4_5 _ | exact c_tc_3_3 _ | exact c_tc_2_4 _ | exact c_tc_2_5 _ | exact c_tc_1_3 _ | exact c_tc_1_4 _ | exact c_tc_0_4 _ | exact c_tc_0_5 _ | exact c_tc_0_6 _ | exact z_01 | exact z_11 | exact nz_24 | exact nz_16 | assumption | omega) only [eB4_push, x_aload_0, x_iload_1, x_iload_2, x_iv_2, x_kx1, x_kx0, x_istore_3, x_getf, c_gf_4_0, x_iload_3, x_iconst, x_istore_4, x_iv_1, x_ic_ne, x_iload_4, c_gf_4_2, x_iv_0, x_ic_eq, x_ret_i, c_gf_4_1, c_gf_4_5, x_lstore_5, x_lload_5, x_istore_7, x_iload_7, x_bipush, x_ic_lt, x_iv_3, x_iadd, jB4_push_42, jB4_push_44, jB4_push_78, uB4_push_0, uB4_push_42, uB4_push_44, uB4_push_78, uB4_push_127, n_0, n_1, n_2, n_3, n_4, n_5, n_6, n_7, n_8, n_9, n_10, n_12, n_13, n_15, n_16, n_20, n_24, n_60, n_64, n_72, n_96, n_192, n_256, n_400, n_808, n_960, n_1440, n_2048, n_2720, n_16777215, n_1000000, l_0, l_1, l_8, l_20, l_60, l_lt_t, l_lt_f, l_ge_t, l_ge_f, l_eq_t, l_eq_f, lN_i, nI_l, i_lt_t, i_lt_f, i_le_t, i_le_f, i_eq_t, i_eq_f, ↓n_m1, ↓n_m2, i_m1, i_m1s, i_m1lt, i_m1le, i_m1l2, i_m1l3, i_mm, nI_add, pk_mul, i_sub, i_dec, i_dec0, i_s01, i_div, Nat.reduceAdd, Nat.reduceSub, Nat.reduceMul, Nat.zero_add, if_true, if_false, not_true, not_false_eq_true, ↓reduceIte, e1, c_part, hp0, hp0', c_kind, tk, c_top, a2, c_read, c1, c_len, c3]) (by simp (disch := first | exact q_two_i _ | exact q_two_r _ | exact q_two_n | exact q_sh0 | exact q_sh1 _ | exact q_sh2 _ _ | exact q_sh3 _ _ _ | exact q_sh4 _ _ _ _ | exact c_cl_5 hq | exact c_tc_5_3 _ | exact c_tc_5_7 _ | exact c_tc_5_8 _ | exact c_tc_5_12 _ | exact c_tc_5_13 _ | exact c_tc_5_15 _ | exact c_tc_5_16 _ | exact c_tc_5_17 _ | exact c_tc_5_18 _ | exact c_tc_5_19 _ | exact c_tc_5_21 _ | exact c_tc_5_22 _ | exact c_tc_5_20a | exact c_tc_5_20b | exact z_01 | exact z_11 | exact nz_24 | exact nz_16 | assumption | omega) only [eB5_push, x_aload_0, x_iload_1, x_iload_2, x_iv_2, x_kx1, x_kx0, x_istore_3, x_iload_3, x_if_eq, x_iv_1, x_iconst, x_ic_ne, x_iv_0, x_ic_lt, x_getf, c_gf_5_4, x_iaload, c_gf_5_2, x_imul, x_ic_eq, x_ret_i, c_gf_5_6, x_laload, x_ldc2_w, x_lcmp, x_if_ne, x_bipush, x_dup_int, x_dup_ref, c_gf_5_12, x_isub, x_putf, c_pf_5_12, c_gf_5_5, x_l2i, x_iadd, c_gf_5_9, x_iastore, x_dup2, x_lconst, x_ladd, x_lastore, jB5_push_54, jB5_push_56, jB5_push_72, uB5_push_0, uB5_push_42, uB5_push_54, uB5_push_56, uB5_push_72, uB5_push_109, n_0, n_1, n_2, n_3, n_4, n_5, n_6, n_7, n_8, n_9, n_10, n_12, n_13, n_15, n_16, n_20, n_24, n_60, n_64, n_72, n_96, n_192, n_256, n_400, n_808, n_960, n_1440, n_2048, n_2720, n_16777215, n_1000000, l_0, l_1, l_8, l_20, l_60, l_lt_t, l_lt_f, l_ge_t, l_ge_f, l_eq_t, l_eq_f, lN_i, nI_l, i_lt_t, i_lt_f, i_le_t, i_le_f, i_eq_t, i_eq_f, ↓n_m1, ↓n_m2, i_m1, i_m1s, i_m1lt, i_m1le, i_m1l2, i_m1l3, i_mm, nI_add, pk_mul, i_sub, i_dec, i_dec0, i_s01, i_div, Nat.reduceAdd, Nat.reduceSub, Nat.reduceMul, Nat.zero_add, if_true, if_false, not_true, not_false_eq_true, ↓reduceIte, hq, e2, m_kind, p4, tk, m_mine, ha0, m_top, e7, c_g_q1, a4, c_g_21, eK, c_g_q3, p5]) ⟨R, fl, ST_mono hI⟩ hN hB1
  have hl7 : l < 8 := by omega
  have hz8 := (hS.2 p0 a8).2.2.1
  have hb : ih - 1 < 120 := by omega
  have hr : 24 + j0 < 120 := by omega
  have hrb : 24 + j0 ≠ ih - 1 := by omega
  obtain ⟨ce2, hce2⟩ : ∃ ce2, va_cpy ce ce ((ih - 1) * 8) (1440 + j * 64 + l * 8) (zs p0) = ce2 := ⟨_, rfl⟩
  obtain ⟨G1, hG1⟩ : ∃ G1, CO kn ks zs ps (ce2) bt rt (upN rl j (l + 1)) nb nr hsh hst ssh (ih - 1) th wt os wn oc dr tm (nI a) g = G1 := ⟨_, rfl⟩
  obtain ⟨i1, i2, i3, e2, -⟩ := h2 G1 n m (d + 597)
  have hfb : f_len (R (ih - 1)) = 1 := by rw [a1]; rfl
  obtain ⟨q1c, q2c⟩ := C_push (ce2 := ce2) (v' := lN (l + 1)) hS hk hT hC hr hb hrb tk hp hy (by omega) hfb pT pC (fun i hi => by
    rw [a1] at hi
    simp only [f_ext, Bool.false_eq_true, if_false, Nat.add_zero] at hi
    rw [hl, ← hce2, mvc, if_pos (by omega)]; congr 1; omega) (fun c hc => by rw [hl] at hc; rw [← hce2, mvc, if_neg (by omega)])
  rw [hl] at q1c q2c
  obtain ⟨K', hK'⟩ : ∃ K', f_app K (R (ih - 1)) = K' := ⟨_, rfl⟩
  have hKl : f_len K' = l + 1 := by rw [← hK', f_app_len, hl, hfb]
  have hAP : ∀ {f : Fo → Nat} {φ : Nat → Nat × Nat → Nat}, fA f φ → rF f (upN (upN R (ih - 1) .leaf) (24 + j0) (b_set (x, j) (lN (l + 1)) K' (R (24 + j0)) p)) = rF f R := fun h => by rw [← hK']; exact rF_pu h hr hb hrb hp
  rw [hK'] at q1c
  have hty : f_ty ks ps s (lN (l + 1)) K' := by
    refine Or.inr (Or.inr (Or.inr (Or.inr ⟨tk, by rw [hKl], by omega, fun i hi => ?_⟩)))
    rw [← hK', f_app_sh]
    by_cases e : i < f_len K
    · rw [if_pos e]; exact hpk i e
    · rw [if_neg e, a1, show i - f_len K = 0 by omega]; exact hp0
  have hTK' : f_okT kn ks ps K' := by rw [← hK']; exact (f_app_T _ _).mpr ⟨p3, (hT _ hb).2⟩
  have hIT : IT kn ks ps (upN (upN R (ih - 1) .leaf) (24 + j0) (b_set (x, j) (lN (l + 1)) K' (R (24 + j0)) p)) := IT_up (IT_lf hT _) (by rw [fb_len]; exact (hT _ hr).1) (fb_T hty hTK' p _ hp (hT _ hr).2)
  have hxc := fb_Ale (fA_cx x) p _ hp
  simp only [if_true] at hxc
  have hxg := rF_ge (f_cx x) R hr
  have hxu := hR.2.1 x
  have hnx : ∀ z, z ≠ x → upN nu x (lN (l + 1)) z = nu z ∧ ∀ i, i < 8 → upN ki (8 * x + l) x1 (8 * z + i) = ki (8 * z + i) := fun z hz => ⟨upN_n _ _ hz, fun i hi => upN_n _ _ (by omega)⟩
  have hro : ∀ r, r < 120 → r ≠ 24 + j0 → f_okR so (upN ki (8 * x + l) x1) (upN nu x (lN (l + 1))) (R r) := fun r hr' hne => f_okR_kp (hR.1 r hr') (fun z hz => ⟨rfl, hnx z (fun e => by
    subst e
    have := rF_two (f_cx z) R hr' hr hne
    omega)⟩)
  have hRp := fb_Rat p _ (hR.1 _ hr)
  rw [hp] at hRp
  have hrK : f_okR so (upN ki (8 * x + l) x1) (upN nu x (lN (l + 1))) K' := by
    rw [← hK']
    refine (f_app_R _ _).mpr ⟨f_okR_kp hRp.2.1 (fun z hz => ⟨rfl, hnx z (fun e => by subst e; omega)⟩), hro _ hb (Ne.symm hrb)⟩
  have hrB : f_okR so (upN ki (8 * x + l) x1) (upN nu x (lN (l + 1))) (b_set (x, j) (lN (l + 1)) K' (R (24 + j0)) p) := by
    refine fb_R (k := (x, j)) (j' := j) ⟨p4, upN_s _ _ _, fun i hi => ?_⟩ hrK p _ hp (hR.1 _ hr) (fun z hz => hnx z (fun e => ?_))
    · rw [← hK', f_app_rt]
      by_cases e : i = l
      · subst e
        rw [upN_s, if_neg (by omega), a1, show i - f_len K = 0 by omega]; rfl
      · rw [upN_n _ _ (by dsimp only; omega)]
        by_cases e2 : i < f_len K
        · rw [if_pos e2]; exact p6 i hi
        · rw [if_neg e2, a1]
          have q1 := p6 i hi
          rw [f_rt_0 K i (by omega)] at q1
          dsimp only
          rw [q1, show i - f_len K = (i - f_len K - 1) + 1 by omega]; rfl
    · subst e
      have q : f_cx z (.inner s (z, j) v K .leaf) = (if z = z then 1 else 0) + f_cx z K + 0 := rfl
      rw [if_pos rfl] at q
      omega
  have hST : ST (c + 1) kn ks zs ps (ce2) bt rt (upN rl j (l + 1)) nb nr hsh hst ssh (ih - 1) th oc ko q1 q2 q3 cp so (upN ki (8 * x + l) x1) (upN nu x (lN (l + 1))) no sp hn sl ah (upN (upN R (ih - 1) .leaf) (24 + j0) (b_set (x, j) (lN (l + 1)) K' (R (24 + j0)) p)) fl := by
    refine ⟨⟨hS, hk⟩, hK, ⟨⟨f1, f2⟩, by omega, f4, f5, by omega, f7⟩, hIT, ⟨fun r hr' => ?_, fun r h h' => ?_, fun r hr' => ?_, fun i hi => ?_⟩, ⟨fun r hr' => ?_, fun z => ?_, fun z => ?_, ?_, ?_⟩, ⟨fun r hr' => ?_, fun z => ?_, fun z hz => ?_, ?_⟩, hO, ⟨?_, hBd.2⟩, ⟨hq, hq17⟩, hcp.1, hcp.2.1, hcp.2.2.1, by omega⟩
    · rw [upN_n _ _ (by omega)]
      by_cases e : r = ih - 1
      · subst e; rw [upN_s]; simp only [f_len]; omega
      · rw [upN_n _ _ e, hL.1 r hr']; omega
    · have hlf := hL.2.1 r h h'
      by_cases e : r = 24 + j0
      · subst e
        exfalso
        rw [hlf] at hp
        cases p <;> simp [b_at] at hp
      · rw [upN_n _ _ e, upN_n _ _ (by omega)]; exact hlf
    · rw [upN_n _ _ (by omega), upN_n _ _ (by omega)]; exact hL.2.2.1 r (by omega)
    · by_cases e : i = j0
      · subst e; rw [upN_s, s_slot_b, fb_rt (k := (x, j)) rfl p _ 0 hp]; exact hL.2.2.2 i hi
      · rw [upN_n _ _ (by omega), upN_n _ _ (by omega)]; exact hL.2.2.2 i hi
    · by_cases e : r = 24 + j0
      · subst e; rw [upN_s]; exact q1c
      · rw [upN_n _ _ e]
        by_cases e2 : r = ih - 1
        · subst e2; rw [upN_s]; trivial
        · rw [upN_n _ _ e2]; exact q2c r hr' e2 e
    · rw [hAP (fA_cb ks 4 z)]; exact hC.2.1 z
    · rw [hAP (fA_cb ks 5 z)]; exact hC.2.2.1 z
    · rw [hAP (fA_nk ks 4)]; exact hC.2.2.2.1
    · rw [hAP (fA_nk ks 5)]; exact hC.2.2.2.2
    · by_cases e : r = 24 + j0
      · subst e; rw [upN_s]; exact hrB
      · rw [upN_n _ _ e]
        by_cases e2 : r = ih - 1
        · subst e2; rw [upN_s]; trivial
        · rw [upN_n _ _ e2]; exact hro r hr' e
    · rw [hAP (fA_cx z)]; exact hR.2.1 z
    · rw [hAP (fA_cx z)] at hz; exact hR.2.2.1 z hz
    · refine fr_keep hR.2.2.2 (fun z hz => ?_)
      refine upN_n _ _ (fun e => ?_)
      have : z = x := by omega
      subst this
      have := List.count_pos_iff.mpr hz
      omega
    · rw [hAP fA_sz]; omega
  have h3q : q2 ≠ 0 := by omega
  have h3q3 : q3 ≠ 0 := by omega
  exact SS_mk1 (hoq := hq) (kn' := kn) (ks' := ks) (zs' := zs) (ps' := ps) (ce' := ce2) (bt' := bt) (rt' := rt) (rl' := upN rl j (l + 1)) (nb' := nb) (nr' := nr) (hsh' := hsh) (hst' := hst) (ssh' := ssh) (ih' := ih - 1) (th' := th) (wt' := wt) (os' := os) (wn' := wn) (oc' := oc) (dr' := dr) (tm' := tm) (fa' := nI a) (ko' := ko) (q1' := q1) (q2' := q2) (q3' := q3) (cp' := cp) (so' := so) (ki' := upN ki (8 * x + l) x1) (nu' := upN nu x (lN (l + 1))) (no' := no) (sp' := sp) (hn' := hn) (sl' := sl) (ah' := ah) (isl' := i1) (inn' := i2) (atk' := i3) hq17 hg hG0 hG1 (r := .int (nI (l + 1))) (by simp (disch := first | exact q_two_i _ | exact q_two_r _ | exact q_two_n | exact q_sh0 | exact q_sh1 _ | exact q_sh2 _ _ | exact q_sh3 _ _ _ | exact q_sh4 _ _ _ _ | exact c_cl_0 .. | exact c_cl_1 .. | exact c_cl_2 .. | exact c_cl_3 .. | exact c_cl_4 .. | exact c_tc_4_4 _ | exact c_tc_4_5 _ | exact c_tc_3_3 _ | exact c_tc_2_4 _ | exact c_tc_2_5 _ | exact c_tc_1_3 _ | exact c_tc_1_4 _ | exact c_tc_0_4 _ | exact c_tc_0_5 _ | exact c_tc_0_6 _ | exact z_01 | exact z_11 | exact nz_24 | exact nz_16 | assumption | omega) only [eB4_push, x_aload_0, x_iload_1, x_iload_2, x_iv_2, x_kx1, x_kx0, x_istore_3, x_getf, c_gf_4_0, x_iload_3, x_iconst, x_istore_4, x_iv_1, x_ic_ne, x_iload_4, c_gf_4_2, x_iv_0, x_ic_eq, x_ret_i, c_gf_4_1, c_gf_4_5, x_lstore_5, x_lload_5, x_istore_7, x_iload_7, x_bipush, x_ic_lt, x_iv_3, x_iadd, jB4_push_42, jB4_push_44, jB4_push_78, uB4_push_0, uB4_push_42, uB4_push_44, uB4_push_78, uB4_push_127, n_0, n_1, n_2, n_3, n_4, n_5, n_6, n_7, n_8, n_9, n_10, n_12, n_13, n_15, n_16, n_20, n_24, n_60, n_64, n_72, n_96, n_192, n_256, n_400, n_808, n_960, n_1440, n_2048, n_2720, n_16777215, n_1000000, l_0, l_1, l_8, l_20, l_60, l_lt_t, l_lt_f, l_ge_t, l_ge_f, l_eq_t, l_eq_f, lN_i, nI_l, i_lt_t, i_lt_f, i_le_t, i_le_f, i_eq_t, i_eq_f, ↓n_m1, ↓n_m2, i_m1, i_m1s, i_m1lt, i_m1le, i_m1l2, i_m1l3, i_mm, nI_add, pk_mul, i_sub, i_dec, i_dec0, i_s01, i_div, Nat.reduceAdd, Nat.reduceSub, Nat.reduceMul, Nat.zero_add, if_true, if_false, not_true, not_false_eq_true, ↓reduceIte, e1, c_part, hp0, hp0', c_kind, tk, c_top, a2, c_read, c1, c_len, c3, c_tAt, c_eltAt, c_size, c_move, hce2, c_setLen, c_off]) (by simp (disch := first | exact q_two_i _ | exact q_two_r _ | exact q_two_n | exact q_sh0 | exact q_sh1 _ | exact q_sh2 _ _ | exact q_sh3 _ _ _ | exact q_sh4 _ _ _ _ | exact c_cl_5 hq | exact c_tc_5_3 _ | exact c_tc_5_7 _ | exact c_tc_5_8 _ | exact c_tc_5_12 _ | exact c_tc_5_13 _ | exact c_tc_5_15 _ | exact c_tc_5_16 _ | exact c_tc_5_17 _ | exact c_tc_5_18 _ | exact c_tc_5_19 _ | exact c_tc_5_21 _ | exact c_tc_5_22 _ | exact c_tc_5_20a | exact c_tc_5_20b | exact z_01 | exact z_11 | exact nz_24 | exact nz_16 | assumption | omega) only [eB5_push, x_aload_0, x_iload_1, x_iload_2, x_iv_2, x_kx1, x_kx0, x_istore_3, x_iload_3, x_if_eq, x_iv_1, x_iconst, x_ic_ne, x_iv_0, x_ic_lt, x_getf, c_gf_5_4, x_iaload, c_gf_5_2, x_imul, x_ic_eq, x_ret_i, c_gf_5_6, x_laload, x_ldc2_w, x_lcmp, x_if_ne, x_bipush, x_dup_int, x_dup_ref, c_gf_5_12, x_isub, x_putf, c_pf_5_12, c_gf_5_5, x_l2i, x_iadd, c_gf_5_9, x_iastore, x_dup2, x_lconst, x_ladd, x_lastore, jB5_push_54, jB5_push_56, jB5_push_72, uB5_push_0, uB5_push_42, uB5_push_54, uB5_push_56, uB5_push_72, uB5_push_109, n_0, n_1, n_2, n_3, n_4, n_5, n_6, n_7, n_8, n_9, n_10, n_12, n_13, n_15, n_16, n_20, n_24, n_60, n_64, n_72, n_96, n_192, n_256, n_400, n_808, n_960, n_1440, n_2048, n_2720, n_16777215, n_1000000, l_0, l_1, l_8, l_20, l_60, l_lt_t, l_lt_f, l_ge_t, l_ge_f, l_eq_t, l_eq_f, lN_i, nI_l, i_lt_t, i_lt_f, i_le_t, i_le_f, i_eq_t, i_eq_f, ↓n_m1, ↓n_m2, i_m1, i_m1s, i_m1lt, i_m1le, i_m1l2, i_m1l3, i_mm, nI_add, pk_mul, i_sub, i_dec, i_dec0, i_s01, i_div, Nat.reduceAdd, Nat.reduceSub, Nat.reduceMul, Nat.zero_add, if_true, if_false, not_true, not_false_eq_true, ↓reduceIte, hq, e2, m_kind, p4, tk, m_mine, ha0, m_top, e7, c_g_q1, a4, c_g_21, eK, c_g_q3, p5, c_g_25, a3', c_p_q2, c_p_q3, lN_add, upN_s]) ⟨_, fl, hST⟩ hN hB1
