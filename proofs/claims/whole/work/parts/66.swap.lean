/-! swap. -/
def swC (ce : Nat → Int64) (a b z : Nat) : Nat → Int64 := fun c => if a ≤ c ∧ c < a + z then ce (b + (c - a)) else if b ≤ c ∧ c < b + z then ce (a + (c - b)) else ce c
theorem swC_0 (ce : Nat → Int64) (a b : Nat) : swC ce a b 0 = ce := by
  funext c
  unfold swC
  rw [if_neg (by omega), if_neg (by omega)]
theorem swC_s (ce : Nat → Int64) {a b k : Nat} (h : a + k < b) : upN (upN (swC ce a b k) (a + k) (swC ce a b k (b + k))) (b + k) (swC ce a b k (a + k)) = swC ce a b (k + 1) := by
  have h1 : swC ce a b k (b + k) = ce (b + k) := by unfold swC; rw [if_neg (by omega), if_neg (by omega)]
  have h2 : swC ce a b k (a + k) = ce (a + k) := by unfold swC; rw [if_neg (by omega), if_neg (by omega)]
  rw [h1, h2]
  funext c
  by_cases e1 : c = b + k
  · subst e1
    rw [upN_s]
    unfold swC
    rw [if_neg (by omega), if_pos (by omega)]
    congr 1; omega
  · rw [upN_n _ _ e1]
    by_cases e2 : c = a + k
    · subst e2
      rw [upN_s]
      unfold swC
      rw [if_pos (by omega)]
      congr 1; omega
    · rw [upN_n _ _ e2]
      unfold swC
      by_cases g1 : a ≤ c ∧ c < a + k
      · rw [if_pos g1, if_pos (by omega)]
      · rw [if_neg g1]
        by_cases g2 : b ≤ c ∧ c < b + k
        · rw [if_pos g2, if_neg (by omega), if_pos (by omega)]
        · rw [if_neg g2, if_neg (by omega), if_neg (by omega)]
theorem c_swL {kn : Nat} {ks zs : Nat → Nat} {ps : Nat → Int32} {ce : Nat → Int64} {bt rt rl : Nat → Nat} {nb nr : Nat} {hsh hst : Nat → Nat} {ssh : Nat → Int32} {ih th : Nat} {wt : Nat → Nat} {os : Nat → Int64} {wn oc dr tm : Nat} {fa : Int32} {g : Nat → Option am_E} {n m d a b z : Nat} (h : a + z ≤ b) (hb : b + z ≤ 2720) : ∀ (k i : Nat) (l5 : Option Value), i + k = z → am_X (ev d) B2_swapCells_0 (B2_swapCells_26, [some (.ref 6), some (.int (nI a)), some (.int (nI b)), some (.int (nI z)), some (.int (nI i)), l5, none], [], (n, m, CO kn ks zs ps (swC ce a b i) bt rt rl nb nr hsh hst ssh ih th wt os wn oc dr tm fa g)) = some (none, (n, m, CO kn ks zs ps (swC ce a b z) bt rt rl nb nr hsh hst ssh ih th wt os wn oc dr tm fa g)) := by
  intro k
  induction k with
  | zero =>
    intro i l5 hi
    obtain rfl : i = z := by omega
    rw [uB2_swapCells_26]
    simp (disch := first | exact q_two_i _ | exact q_two_r _ | exact q_two_n | exact q_sh0 | exact q_sh1 _ | exact q_sh2 _ _ | exact q_sh3 _ _ _ | exact q_sh4 _ _ _ _ | exact c_cl_0 .. | exact c_cl_1 .. | exact c_cl_2 .. | exact c_cl_3 .. | exact c_cl_4 .. | exact c_tc_4_4 _ | exact c_tc_4_5 _ | exact c_tc_3_3 _ | exact c_tc_2_4 _ | exact c_tc_2_5 _ | exact c_tc_1_3 _ | exact c_tc_1_4 _ | exact c_tc_0_4 _ | exact c_tc_0_5 _ | exact c_tc_0_6 _ | exact z_01 | exact z_11 | exact nz_24 | exact nz_16 | assumption | omega) only [x_iload_3, x_bipush, x_ic_gt, x_iload_1, x_it_2, x_kx1, x_kx0, x_if_eq, x_iload_2, x_if_ne, x_ret_v, x_iconst, x_istore_4, x_iload_4, x_ic_ge, x_aload_0, x_getf, c_gf_2_0, x_iadd, x_laload, x_lstore_5, x_lastore, x_lload_5, x_iinc_4, x_goto, jB2_swapCells_22, jB2_swapCells_23, jB2_swapCells_26, jB2_swapCells_78, uB2_swapCells_22, uB2_swapCells_23, uB2_swapCells_65, uB2_swapCells_78, n_0, n_1, n_2, n_3, n_4, n_5, n_6, n_7, n_8, n_9, n_10, n_12, n_13, n_15, n_16, n_20, n_24, n_60, n_64, n_72, n_96, n_192, n_256, n_400, n_808, n_960, n_1440, n_2048, n_2720, n_16777215, n_1000000, l_0, l_1, l_8, l_20, l_60, l_lt_t, l_lt_f, l_ge_t, l_ge_f, l_eq_t, l_eq_f, lN_i, nI_l, i_lt_t, i_lt_f, i_le_t, i_le_f, i_eq_t, i_eq_f, ↓n_m1, ↓n_m2, i_m1, i_m1s, i_m1lt, i_m1le, i_m1l2, i_m1l3, i_mm, nI_add, pk_mul, i_sub, i_dec, i_dec0, i_s01, i_div, Nat.reduceAdd, Nat.reduceSub, Nat.reduceMul, Nat.zero_add, if_true, if_false, not_true, not_false_eq_true, ↓reduceIte]
  | succ k ih' =>
    intro i l5 hi
    rw [uB2_swapCells_26]
    have e1 := swC_s ce (a := a) (b := b) (k := i) (by omega)
    have e2 := ih' (i + 1) (some (.long (swC ce a b i (a + i)))) (by omega)
    rw [← e1] at e2
    have e3 : upN (swC ce a b i) (a + i) (swC ce a b i (b + i)) (b + i) = swC ce a b i (b + i) := upN_n _ _ (by omega)
    simp (disch := first | exact q_two_i _ | exact q_two_r _ | exact q_two_n | exact q_sh0 | exact q_sh1 _ | exact q_sh2 _ _ | exact q_sh3 _ _ _ | exact q_sh4 _ _ _ _ | exact c_cl_0 .. | exact c_cl_1 .. | exact c_cl_2 .. | exact c_cl_3 .. | exact c_cl_4 .. | exact c_tc_4_4 _ | exact c_tc_4_5 _ | exact c_tc_3_3 _ | exact c_tc_2_4 _ | exact c_tc_2_5 _ | exact c_tc_1_3 _ | exact c_tc_1_4 _ | exact c_tc_0_4 _ | exact c_tc_0_5 _ | exact c_tc_0_6 _ | exact z_01 | exact z_11 | exact nz_24 | exact nz_16 | assumption | omega) only [x_iload_3, x_bipush, x_ic_gt, x_iload_1, x_it_2, x_kx1, x_kx0, x_if_eq, x_iload_2, x_if_ne, x_ret_v, x_iconst, x_istore_4, x_iload_4, x_ic_ge, x_aload_0, x_getf, c_gf_2_0, x_iadd, x_laload, x_lstore_5, x_lastore, x_lload_5, x_iinc_4, x_goto, jB2_swapCells_22, jB2_swapCells_23, jB2_swapCells_26, jB2_swapCells_78, uB2_swapCells_22, uB2_swapCells_23, uB2_swapCells_65, uB2_swapCells_78, n_0, n_1, n_2, n_3, n_4, n_5, n_6, n_7, n_8, n_9, n_10, n_12, n_13, n_15, n_16, n_20, n_24, n_60, n_64, n_72, n_96, n_192, n_256, n_400, n_808, n_960, n_1440, n_2048, n_2720, n_16777215, n_1000000, l_0, l_1, l_8, l_20, l_60, l_lt_t, l_lt_f, l_ge_t, l_ge_f, l_eq_t, l_eq_f, lN_i, nI_l, i_lt_t, i_lt_f, i_le_t, i_le_f, i_eq_t, i_eq_f, ↓n_m1, ↓n_m2, i_m1, i_m1s, i_m1lt, i_m1le, i_m1l2, i_m1l3, i_mm, nI_add, pk_mul, i_sub, i_dec, i_dec0, i_s01, i_div, Nat.reduceAdd, Nat.reduceSub, Nat.reduceMul, Nat.zero_add, if_true, if_false, not_true, not_false_eq_true, ↓reduceIte, c_g_7, c_p_7, e2]
theorem c_swp {kn : Nat} {ks zs : Nat → Nat} {ps : Nat → Int32} {ce : Nat → Int64} {bt rt rl : Nat → Nat} {nb nr : Nat} {hsh hst : Nat → Nat} {ssh : Nat → Int32} {ih th : Nat} {wt : Nat → Nat} {os : Nat → Int64} {wn oc dr tm : Nat} {fa : Int32} {g : Nat → Option am_E} {n m d : Nat} (a b z : Nat) (h : a + z ≤ b) (hb : b + z ≤ 2720) (hz : z ≤ 8) : ev (d + 2) 32 [.ref 6, .int (nI a), .int (nI b), .int (nI z)] (n, m, CO kn ks zs ps ce bt rt rl nb nr hsh hst ssh ih th wt os wn oc dr tm fa g) = some (none, (n, m, CO kn ks zs ps (swC ce a b z) bt rt rl nb nr hsh hst ssh ih th wt os wn oc dr tm fa g)) := by
  have e := c_swL (kn := kn) (ks := ks) (zs := zs) (ps := ps) (ce := ce) (bt := bt) (rt := rt) (rl := rl) (nb := nb) (nr := nr) (hsh := hsh) (hst := hst) (ssh := ssh) (ih := ih) (th := th) (wt := wt) (os := os) (wn := wn) (oc := oc) (dr := dr) (tm := tm) (fa := fa) (g := g) (n := n) (m := m) (d := d + 1) h hb z 0 none (by omega)
  rw [swC_0] at e
  simp (disch := first | exact q_two_i _ | exact q_two_r _ | exact q_two_n | exact q_sh0 | exact q_sh1 _ | exact q_sh2 _ _ | exact q_sh3 _ _ _ | exact q_sh4 _ _ _ _ | exact c_cl_0 .. | exact c_cl_1 .. | exact c_cl_2 .. | exact c_cl_3 .. | exact c_cl_4 .. | exact c_tc_4_4 _ | exact c_tc_4_5 _ | exact c_tc_3_3 _ | exact c_tc_2_4 _ | exact c_tc_2_5 _ | exact c_tc_1_3 _ | exact c_tc_1_4 _ | exact c_tc_0_4 _ | exact c_tc_0_5 _ | exact c_tc_0_6 _ | exact z_01 | exact z_11 | exact nz_24 | exact nz_16 | assumption | omega) only [eB2_swapCells, x_iload_3, x_bipush, x_ic_gt, x_iload_1, x_it_2, x_kx1, x_kx0, x_if_eq, x_iload_2, x_if_ne, x_ret_v, x_iconst, x_istore_4, x_iload_4, x_ic_ge, x_aload_0, x_getf, c_gf_2_0, x_iadd, x_laload, x_lstore_5, x_lastore, x_lload_5, x_iinc_4, x_goto, jB2_swapCells_22, jB2_swapCells_23, jB2_swapCells_26, jB2_swapCells_78, uB2_swapCells_0, uB2_swapCells_22, uB2_swapCells_23, uB2_swapCells_65, uB2_swapCells_78, n_0, n_1, n_2, n_3, n_4, n_5, n_6, n_7, n_8, n_9, n_10, n_12, n_13, n_15, n_16, n_20, n_24, n_60, n_64, n_72, n_96, n_192, n_256, n_400, n_808, n_960, n_1440, n_2048, n_2720, n_16777215, n_1000000, l_0, l_1, l_8, l_20, l_60, l_lt_t, l_lt_f, l_ge_t, l_ge_f, l_eq_t, l_eq_f, lN_i, nI_l, i_lt_t, i_lt_f, i_le_t, i_le_f, i_eq_t, i_eq_f, ↓n_m1, ↓n_m2, i_m1, i_m1s, i_m1lt, i_m1le, i_m1l2, i_m1l3, i_mm, nI_add, pk_mul, i_sub, i_dec, i_dec0, i_s01, i_div, Nat.reduceAdd, Nat.reduceSub, Nat.reduceMul, Nat.zero_add, if_true, if_false, not_true, not_false_eq_true, ↓reduceIte, c_are, e]
theorem rF_sw {f : Fo → Nat} {φ : Nat → Nat × Nat → Nat} (h : fA f φ) {R : Nat → Fo} {r b s : Nat} {k k1 : Nat × Nat} {v v1 : Int64} {K K1 N : Fo} {p : List Bool} (hr : r < 120) (hb : b < 120) (hrb : r ≠ b) (hp : b_at (R r) p = .inner s k v K N) (h1 : R b = .inner s k1 v1 K1 .leaf) : rF f (upN (upN R b (.inner s k v K .leaf)) r (b_set k1 v1 K1 (R r) p)) = rF f R := by
  have e1 := rF_up f R b (.inner s k v K .leaf) hb
  have e2 := rF_up f (upN R b (.inner s k v K .leaf)) r (b_set k1 v1 K1 (R r) p) hr
  have e3 := fb_A h (k' := k1) (v' := v1) (K' := K1) p (R r) hp
  rw [h1, h.2, h.2, h.1] at e1
  rw [upN_n _ _ hrb] at e2
  omega
/-- another root's value comes to a place, class -/
theorem C_set {kn : Nat} {ks zs : Nat → Nat} {ps : Nat → Int32} {ce ce2 : Nat → Int64} {bt rt rl : Nat → Nat} {nb nr : Nat} {R : Nat → Fo} (hS : s_ok kn ks zs ps) (hk : kn ≤ 24) (hT : IT kn ks ps R) (hC : IC1 ks zs ce bt rt rl nb nr R) {r b a : Nat} (hr : r < 120) (hb : b < 120) (hrb : r ≠ b) {p : List Bool} {s : Nat} {k k1 : Nat × Nat} {v v1 : Int64} {K N K1 : Fo} (hp : b_at (R r) p = .inner s k v K N) (h1 : R b = .inner s k1 v1 K1 .leaf) (ha : (b_ad ks zs (R r) p (8 * r, false)).1 = a) (hi : ∀ i, i < zs s → ce2 (a + i) = ce (8 * b + i)) (hii : ∀ c, ¬ (a ≤ c ∧ c < a + zs s) → ¬ (8 * b ≤ c ∧ c < 8 * b + 8) → ce2 c = ce c) :
    f_okC ks zs ce2 rl (b_set k1 v1 K1 (R r) p) (8 * r) false ∧ ∀ r', r' < 120 → r' ≠ b → r' ≠ r → f_okC ks zs ce2 rl (R r') (8 * r') false := by
  have hu := fun r' hr' hne c => uC_two hS hT hC (r := r') hr' hr hne c
  have hub := fun r' hr' hne c => uC_two hS hT hC (r := r') hr' hb hne c
  have hpl := plC hS hk hT hC hr hp
  rw [ha] at hpl
  have nina : ∀ c, uC ks R r c = 0 → ¬ (a ≤ c ∧ c < a + zs s) := fun c h0 h => by
    have e1 := (hpl c).1
    rw [c_inl_1 h] at e1; omega
  have ninb : ∀ c, uC ks R b c = 0 → ¬ (8 * b ≤ c ∧ c < 8 * b + 8) := fun c h0 h => by
    unfold uC at h0
    rw [c_inl_1 h] at h0; omega
  have hTb := (hT b hb).2
  have hCb := hC.1 b hb
  have hblk : ∀ c, 0 < c_blk ks c (R b) → 960 ≤ c → ce2 c = ce c := fun c h0 h9 => by
    refine hii c (nina c ?_) (by omega)
    have := hu b hb (Ne.symm hrb) c
    have e : uC ks R b c = c_inl c (8 * b) 8 + c_blk ks c (R b) := rfl
    omega
  rw [h1] at hTb hCb hblk
  constructor
  · refine okC_set hS hk p (R r) (8 * r, false) (hT r hr).2 hp (hC.1 r hr) ?_ (fun c hc => ?_) (fun _ _ => rfl)
    · rw [ha]
      refine f_okC_mv hS hk _ (8 * b) a false hTb hCb (fun i hi' => hi i ?_) (fun j hj i hi' => hblk _ (blk4 hj hi') (by omega)) (fun j hj => ⟨rfl, fun i hi' => hblk _ (blk5 hj hi') (by omega)⟩)
      simpa only [f_ext, Bool.false_eq_true, if_false, Nat.add_zero] using hi'
    · have e1 := uC_cc hS hk hT hr c
      have e2 := hub r hr hrb c
      refine hii c (fun h => ?_) (ninb c (by omega))
      have e3 := (hpl c).2 (by rw [c_inl_1 h]; omega)
      omega
  · intro r' hr' hb' hne
    refine okC_fr hS (R r') (8 * r') false (hT r' hr').2 (hC.1 r' hr') (fun c hc => ?_) (fun _ _ => rfl)
    have e1 := uC_cc hS hk hT hr' c
    have e2 := hu r' hr' hne c
    have e3 := hub r' hr' hb' c
    exact hii c (nina c (by omega)) (ninb c (by omega))
/-- the value of a place comes to another root, class -/
theorem C_get {kn : Nat} {ks zs : Nat → Nat} {ps : Nat → Int32} {ce ce2 : Nat → Int64} {bt rt rl : Nat → Nat} {nb nr : Nat} {R : Nat → Fo} (hS : s_ok kn ks zs ps) (hk : kn ≤ 24) (hT : IT kn ks ps R) (hC : IC1 ks zs ce bt rt rl nb nr R) {r b a : Nat} (hr : r < 120) (hb : b < 120) {p : List Bool} {s : Nat} {k : Nat × Nat} {v : Int64} {K N : Fo} (hp : b_at (R r) p = .inner s k v K N) (ha : (b_ad ks zs (R r) p (8 * r, false)).1 = a) (hok : f_okT kn ks ps (.inner s k v K .leaf)) (hoc : f_okC ks zs ce rl (.inner s k v K .leaf) a false) (hi : ∀ i, i < zs s → ce2 (8 * b + i) = ce (a + i)) (hii : ∀ c, ¬ (a ≤ c ∧ c < a + zs s) → ¬ (8 * b ≤ c ∧ c < 8 * b + 8) → ce2 c = ce c) : f_okC ks zs ce2 rl (.inner s k v K .leaf) (8 * b) false := by
  have hpl := plC hS hk hT hC hr hp
  rw [ha] at hpl
  have hblk : ∀ c, 0 < c_blk ks c (.inner s k v K .leaf) → 960 ≤ c → ce2 c = ce c := fun c h0 h9 => by
    refine hii c (fun h => ?_) (by omega)
    have e1 := (hpl c).1
    have e2 := uC_one hS hT hC hr c
    rw [c_inl_1 h] at e1
    simp only [c_blk] at h0
    omega
  refine f_okC_mv hS hk _ a (8 * b) false hok hoc (fun i hi' => hi i ?_) (fun j hj i hi' => hblk _ (blk4 hj hi') (by omega)) (fun j hj => ⟨rfl, fun i hi' => hblk _ (blk5 hj hi') (by omega)⟩)
  simpa only [f_ext, Bool.false_eq_true, if_false, Nat.add_zero] using hi'
theorem s_slot_b {k' : Nat × Nat} {v' : Int64} {K' : Fo} : ∀ (p : List Bool) (F : Fo), s_slot (b_set k' v' K' F p) = s_slot F
  | _, .leaf => by simp only [b_set]
  | [], .inner s k v K N => rfl
  | true :: p, .inner s k v K N => rfl
  | false :: p, .inner s k v K N => rfl
/-- where a place hangs, and what its putting does -/
theorem hang_put {c : Nat} {kn : Nat} {ks zs : Nat → Nat} {ps : Nat → Int32} {ce : Nat → Int64} {bt rt rl : Nat → Nat} {nb nr : Nat} {hsh hst : Nat → Nat} {ssh : Nat → Int32} {ih th oc : Nat} {ko : Nat → Int32} {q1 q2 q3 cp : Nat} {so ki : Nat → Nat} {nu : Nat → Int64} {no sp : Nat} {hn sl ah : Nat → Nat} {R : Nat → Fo} {fl : List Nat} (hI : ST c kn ks zs ps ce bt rt rl nb nr hsh hst ssh ih th oc ko q1 q2 q3 cp so ki nu no sp hn sl ah R fl) {j0 i1 i2 i3 s x j x1 j1 : Nat} {p : List Bool} {v v1 : Int64} {K N K1 : Fo} (hj : j0 < 96) (hp : b_at (R (24 + j0)) p = .inner s (x, j) v K N) (hh : hang (R (24 + j0)) p j0 i1 i2 i3) (ki1 : Nat → Nat) : ∃ ki2 sl2, ((i1 = 1 ∧ i2 < 96 ∧ ki2 = ki1 ∧ sl2 = upN sl i2 x1) ∨ (i1 = 0 ∧ i2 < cp ∧ i3 < 8 ∧ ki2 = upN ki1 (8 * i2 + i3) x1 ∧ sl2 = sl)) ∧ ((p = [] ∧ ki2 = ki1) ∨ ∃ p2 i s2 x2 j2 v2 K2 N2, p = p2 ++ true :: List.replicate i false ∧ b_at (R (24 + j0)) p2 = .inner s2 (x2, j2) v2 K2 N2 ∧ i < 8 ∧ ki2 = upN ki1 (8 * x2 + i) x1) ∧ ∀ i, i < 96 → sl2 i = if i = j0 then f_rt (b_set (x1, j1) v1 K1 (R (24 + j0)) p) 0 else sl i := by
  obtain ⟨⟨hS, hk⟩, hK, hF, hT, hL, hC, hR, hO, hBd, ⟨hq, hq17⟩, hcp⟩ := id hI
  rcases hh with ⟨rfl, rfl, rfl⟩ | ⟨p2, i, s2, x2, j2, v2, K2, N2, rfl, hp2, hi, rfl, rfl, rfl⟩
  · refine ⟨ki1, upN sl i2 x1, Or.inl ⟨rfl, hj, rfl, rfl⟩, Or.inl ⟨rfl, rfl⟩, fun i hi => ?_⟩
    by_cases e : i = i2
    · subst e
      rw [upN_s, if_pos rfl]
      have hp' : R (24 + i) = .inner s (x, j) v K N := by simpa only [b_at] using hp
      rw [hp']; rfl
    · rw [upN_n _ _ e, if_neg e]
  · obtain ⟨⟨p1, p2', p3⟩, -, ⟨-, -, p9⟩, -⟩ := pl hI hj hp2
    have h8 := f_ty8 (kn := kn) (zs := zs) p2'
    refine ⟨upN ki1 (8 * i2 + i3) x1, sl, Or.inr ⟨rfl, p9, by omega, rfl, rfl⟩, Or.inr ⟨p2, i3, s2, i2, j2, v2, K2, N2, rfl, hp2, by omega, rfl⟩, fun i hi => ?_⟩
    by_cases e : i = j0
    · subst e
      rw [if_pos rfl, b_set_app _ _ _ hp2, fb_rt (k := (i2, j2)) rfl p2 _ 0 hp2]
      exact (hL.2.2.2 i hi).2
    · rw [if_neg e]
theorem s_swap {e0 : Option am_E} {d c n m : Nat} {kn : Nat} {ks zs : Nat → Nat} {ps : Nat → Int32} {ce : Nat → Int64} {bt rt rl : Nat → Nat} {nb nr : Nat} {hsh hst : Nat → Nat} {ssh : Nat → Int32} {ih th : Nat} {wt : Nat → Nat} {os : Nat → Int64} {wn oc dr tm : Nat} {fa : Int32} {ko : Nat → Int32} {q1 q2 q3 cp : Nat} {so ki : Nat → Nat} {nu : Nat → Int64} {no sp : Nat} {hn sl ah : Nat → Nat} {isl inn atk : Nat} {g : Nat → Option am_E} {R : Nat → Fo} {fl : List Nat} (hI : ST c kn ks zs ps ce bt rt rl nb nr hsh hst ssh ih th oc ko q1 q2 q3 cp so ki nu no sp hn sl ah R fl) (hN : NQ n q1 q2 q3) (hg : g 0 = e0) (hB : n ≤ 28 + 3 * c ∧ m ≤ 20000 + 10260 * c) (xs xp : Int32) : SS e0 (d + 600) 74 137 [.int xs, .int xp] c (n, m, CO kn ks zs ps ce bt rt rl nb nr hsh hst ssh ih th wt os wn oc dr tm fa (RO kn ks zs ko q1 q2 q3 cp so ki nu no sp hn sl ah ih th os oc nb nr tm dr isl inn atk g)) := by
  obtain ⟨⟨hS, hk⟩, hK, hF, hT, hL, hC, hR, hO, hBd, ⟨hq, hq17⟩, hcp⟩ := id hI
  have hB1 : n ≤ 28 + 3 * (c + 1) ∧ m ≤ 20000 + 10260 * (c + 1) := ⟨by omega, by omega⟩
  obtain ⟨⟨f1, f2⟩, f3, f4, f5, f6, f7⟩ := id hF
  obtain ⟨b0, hb0⟩ : ∃ b0, hst (th - 1) = b0 := ⟨_, rfl⟩
  have hb3 : b0 ≤ ih := by rw [← hb0]; exact f6
  have ha0 : ah th = b0 := by rw [← hb0, ← f7 (th - 1) (by omega), Nat.sub_add_cancel f1]
  have hb4 : ah th ≤ ih := by rw [ha0]; exact hb3
  have f0 : 0 < th := f1
  have f13 : th < 13 := by omega
  obtain ⟨G0, hG0⟩ : ∃ G0, RO kn ks zs ko q1 q2 q3 cp so ki nu no sp hn sl ah ih th os oc nb nr tm dr isl inn atk g = G0 := ⟨_, rfl⟩
  have hcp1 := hcp.1
  rcases sk (kn := kn) (ks := ks) (zs := zs) (ps := ps) (ce := ce) (bt := bt) (rt := rt) (rl := rl) (nb := nb) (nr := nr) (hsh := hsh) (hst := hst) (ssh := ssh) (ih := ih) (th := th) (wt := wt) (os := os) (wn := wn) (oc := oc) (dr := dr) (tm := tm) (fa := fa) (ko := ko) (q1 := q1) (q2 := q2) (q3 := q3) (cp := cp) (so := so) (ki := ki) (nu := nu) (no := no) (sp := sp) (hn := hn) (sl := sl) (ah := ah) (isl := isl) (inn := inn) (atk := atk) hI xs xp with ⟨h1, h2⟩ | ⟨j0, p, s, x, j, v, K, N, hj, hp, h1, h2⟩
  · obtain ⟨y, e1⟩ := h1 G0 n m (d + 593)
    obtain ⟨G1, hG1⟩ : ∃ G1, CO kn ks zs ps ce bt rt rl nb nr hsh hst ssh ih th wt os wn oc dr tm (y) g = G1 := ⟨_, rfl⟩
    obtain ⟨i1, i2, i3, e2⟩ := h2 G1 n m (d + 597)
    exact SS_mk1 (hoq := hq) (kn' := kn) (ks' := ks) (zs' := zs) (ps' := ps) (ce' := ce) (bt' := bt) (rt' := rt) (rl' := rl) (nb' := nb) (nr' := nr) (hsh' := hsh) (hst' := hst) (ssh' := ssh) (ih' := ih) (th' := th) (wt' := wt) (os' := os) (wn' := wn) (oc' := oc) (dr' := dr) (tm' := tm) (fa' := y) (ko' := ko) (q1' := q1) (q2' := q2) (q3' := q3) (cp' := cp) (so' := so) (ki' := ki) (nu' := nu) (no' := no) (sp' := sp) (hn' := hn) (sl' := sl) (ah' := ah) (isl' := i1) (inn' := i2) (atk' := i3) hq17 hg hG0 hG1 (r := .int mI) (by simp (disch := first | exact q_two_i _ | exact q_two_r _ | exact q_two_n | exact q_sh0 | exact q_sh1 _ | exact q_sh2 _ _ | exact q_sh3 _ _ _ | exact q_sh4 _ _ _ _ | exact c_cl_0 .. | exact c_cl_1 .. | exact c_cl_2 .. | exact c_cl_3 .. | exact c_cl_4 .. | exact c_tc_4_4 _ | exact c_tc_4_5 _ | exact c_tc_3_3 _ | exact c_tc_2_4 _ | exact c_tc_2_5 _ | exact c_tc_1_3 _ | exact c_tc_1_4 _ | exact c_tc_0_4 _ | exact c_tc_0_5 _ | exact c_tc_0_6 _ | exact z_01 | exact z_11 | exact nz_24 | exact nz_16 | assumption | omega) only [eB4_swap, x_aload_0, x_iload_1, x_iload_2, x_iv_2, x_kx1, x_kx0, x_istore_3, x_iload_3, x_iconst, x_ic_eq, x_getf, c_gf_4_2, x_iv_0, x_ret_i, c_gf_4_1, c_gf_4_5, c_gf_4_0, x_iv_1, x_iv_3, jB4_swap_23, jB4_swap_25, uB4_swap_0, uB4_swap_23, uB4_swap_25, n_0, n_1, n_2, n_3, n_4, n_5, n_6, n_7, n_8, n_9, n_10, n_12, n_13, n_15, n_16, n_20, n_24, n_60, n_64, n_72, n_96, n_192, n_256, n_400, n_808, n_960, n_1440, n_2048, n_2720, n_16777215, n_1000000, l_0, l_1, l_8, l_20, l_60, l_lt_t, l_lt_f, l_ge_t, l_ge_f, l_eq_t, l_eq_f, lN_i, nI_l, i_lt_t, i_lt_f, i_le_t, i_le_f, i_eq_t, i_eq_f, ↓n_m1, ↓n_m2, i_m1, i_m1s, i_m1lt, i_m1le, i_m1l2, i_m1l3, i_mm, nI_add, pk_mul, i_sub, i_dec, i_dec0, i_s01, i_div, Nat.reduceAdd, Nat.reduceSub, Nat.reduceMul, Nat.zero_add, if_true, if_false, not_true, not_false_eq_true, ↓reduceIte, e1]) (by simp (disch := first | exact q_two_i _ | exact q_two_r _ | exact q_two_n | exact q_sh0 | exact q_sh1 _ | exact q_sh2 _ _ | exact q_sh3 _ _ _ | exact q_sh4 _ _ _ _ | exact c_cl_5 hq | exact c_tc_5_3 _ | exact c_tc_5_7 _ | exact c_tc_5_8 _ | exact c_tc_5_12 _ | exact c_tc_5_13 _ | exact c_tc_5_15 _ | exact c_tc_5_16 _ | exact c_tc_5_17 _ | exact c_tc_5_18 _ | exact c_tc_5_19 _ | exact c_tc_5_21 _ | exact c_tc_5_22 _ | exact c_tc_5_20a | exact c_tc_5_20b | exact z_01 | exact z_11 | exact nz_24 | exact nz_16 | assumption | omega) only [eB5_swap, x_aload_0, x_iload_1, x_iload_2, x_iv_2, x_kx1, x_kx0, x_istore_3, x_iload_3, x_if_eq, x_iv_0, x_iconst, x_ic_lt, x_getf, c_gf_5_4, x_iv_1, x_iaload, x_ic_eq, x_ret_i, c_gf_5_9, c_gf_5_12, x_isub, x_iastore, jB5_swap_38, jB5_swap_40, uB5_swap_0, uB5_swap_38, uB5_swap_40, n_0, n_1, n_2, n_3, n_4, n_5, n_6, n_7, n_8, n_9, n_10, n_12, n_13, n_15, n_16, n_20, n_24, n_60, n_64, n_72, n_96, n_192, n_256, n_400, n_808, n_960, n_1440, n_2048, n_2720, n_16777215, n_1000000, l_0, l_1, l_8, l_20, l_60, l_lt_t, l_lt_f, l_ge_t, l_ge_f, l_eq_t, l_eq_f, lN_i, nI_l, i_lt_t, i_lt_f, i_le_t, i_le_f, i_eq_t, i_eq_f, ↓n_m1, ↓n_m2, i_m1, i_m1s, i_m1lt, i_m1le, i_m1l2, i_m1l3, i_mm, nI_add, pk_mul, i_sub, i_dec, i_dec0, i_s01, i_div, Nat.reduceAdd, Nat.reduceSub, Nat.reduceMul, Nat.zero_add, if_true, if_false, not_true, not_false_eq_true, ↓reduceIte, hq, e2]) ⟨R, fl, ST_mono hI⟩ hN hB1
  obtain ⟨⟨p1, p2, p3⟩, ⟨p4, p5, p6⟩, ⟨p7, p8, p9⟩, p10, p11⟩ := pl hI hj hp
  have e1 := h1 G0 n m (d + 593)
  have p12 := b_ad_ge (ks := ks) (zs := zs) p (R (24 + j0)) (8 * (24 + j0), false) (by dsimp only; omega)
  have pC : f_okC ks zs ce rl (.inner s (x, j) v K .leaf) (b_ad ks zs (R (24 + j0)) p (8 * (24 + j0), false)).1 false := ⟨p10.2.1.1, trivial⟩
  obtain ⟨a, hy⟩ : ∃ a, (b_ad ks zs (R (24 + j0)) p (8 * (24 + j0), false)).1 = a := ⟨_, rfl⟩
  rw [hy] at e1 p11 p12 pC
  have hs24 : s < 24 := by omega
  have hsx : so x < 24 := by omega
  have hx0 : x ≠ 0 := by omega
  have hx5 : x < 100000 := by omega
  by_cases hb1 : b0 = ih
  · subst hb1
    obtain ⟨G1, hG1⟩ : ∃ G1, CO kn ks zs ps ce bt rt rl nb nr hsh hst ssh (b0) th wt os wn oc dr tm (nI a) g = G1 := ⟨_, rfl⟩
    obtain ⟨i1, i2, i3, e2, -⟩ := h2 G1 n m (d + 597)
    exact SS_mk1 (hoq := hq) (kn' := kn) (ks' := ks) (zs' := zs) (ps' := ps) (ce' := ce) (bt' := bt) (rt' := rt) (rl' := rl) (nb' := nb) (nr' := nr) (hsh' := hsh) (hst' := hst) (ssh' := ssh) (ih' := b0) (th' := th) (wt' := wt) (os' := os) (wn' := wn) (oc' := oc) (dr' := dr) (tm' := tm) (fa' := nI a) (ko' := ko) (q1' := q1) (q2' := q2) (q3' := q3) (cp' := cp) (so' := so) (ki' := ki) (nu' := nu) (no' := no) (sp' := sp) (hn' := hn) (sl' := sl) (ah' := ah) (isl' := i1) (inn' := i2) (atk' := i3) hq17 hg hG0 hG1 (r := .int mI) (by simp (disch := first | exact q_two_i _ | exact q_two_r _ | exact q_two_n | exact q_sh0 | exact q_sh1 _ | exact q_sh2 _ _ | exact q_sh3 _ _ _ | exact q_sh4 _ _ _ _ | exact c_cl_0 .. | exact c_cl_1 .. | exact c_cl_2 .. | exact c_cl_3 .. | exact c_cl_4 .. | exact c_tc_4_4 _ | exact c_tc_4_5 _ | exact c_tc_3_3 _ | exact c_tc_2_4 _ | exact c_tc_2_5 _ | exact c_tc_1_3 _ | exact c_tc_1_4 _ | exact c_tc_0_4 _ | exact c_tc_0_5 _ | exact c_tc_0_6 _ | exact z_01 | exact z_11 | exact nz_24 | exact nz_16 | assumption | omega) only [eB4_swap, x_aload_0, x_iload_1, x_iload_2, x_iv_2, x_kx1, x_kx0, x_istore_3, x_iload_3, x_iconst, x_ic_eq, x_getf, c_gf_4_2, x_iv_0, x_ret_i, c_gf_4_1, c_gf_4_5, c_gf_4_0, x_iv_1, x_iv_3, jB4_swap_23, jB4_swap_25, uB4_swap_0, uB4_swap_23, uB4_swap_25, n_0, n_1, n_2, n_3, n_4, n_5, n_6, n_7, n_8, n_9, n_10, n_12, n_13, n_15, n_16, n_20, n_24, n_60, n_64, n_72, n_96, n_192, n_256, n_400, n_808, n_960, n_1440, n_2048, n_2720, n_16777215, n_1000000, l_0, l_1, l_8, l_20, l_60, l_lt_t, l_lt_f, l_ge_t, l_ge_f, l_eq_t, l_eq_f, lN_i, nI_l, i_lt_t, i_lt_f, i_le_t, i_le_f, i_eq_t, i_eq_f, ↓n_m1, ↓n_m2, i_m1, i_m1s, i_m1lt, i_m1le, i_m1l2, i_m1l3, i_mm, nI_add, pk_mul, i_sub, i_dec, i_dec0, i_s01, i_div, Nat.reduceAdd, Nat.reduceSub, Nat.reduceMul, Nat.zero_add, if_true, if_false, not_true, not_false_eq_true, ↓reduceIte, e1, c_top0]) (by simp (disch := first | exact q_two_i _ | exact q_two_r _ | exact q_two_n | exact q_sh0 | exact q_sh1 _ | exact q_sh2 _ _ | exact q_sh3 _ _ _ | exact q_sh4 _ _ _ _ | exact c_cl_5 hq | exact c_tc_5_3 _ | exact c_tc_5_7 _ | exact c_tc_5_8 _ | exact c_tc_5_12 _ | exact c_tc_5_13 _ | exact c_tc_5_15 _ | exact c_tc_5_16 _ | exact c_tc_5_17 _ | exact c_tc_5_18 _ | exact c_tc_5_19 _ | exact c_tc_5_21 _ | exact c_tc_5_22 _ | exact c_tc_5_20a | exact c_tc_5_20b | exact z_01 | exact z_11 | exact nz_24 | exact nz_16 | assumption | omega) only [eB5_swap, x_aload_0, x_iload_1, x_iload_2, x_iv_2, x_kx1, x_kx0, x_istore_3, x_iload_3, x_if_eq, x_iv_0, x_iconst, x_ic_lt, x_getf, c_gf_5_4, x_iv_1, x_iaload, x_ic_eq, x_ret_i, c_gf_5_9, c_gf_5_12, x_isub, x_iastore, jB5_swap_38, jB5_swap_40, uB5_swap_0, uB5_swap_38, uB5_swap_40, n_0, n_1, n_2, n_3, n_4, n_5, n_6, n_7, n_8, n_9, n_10, n_12, n_13, n_15, n_16, n_20, n_24, n_60, n_64, n_72, n_96, n_192, n_256, n_400, n_808, n_960, n_1440, n_2048, n_2720, n_16777215, n_1000000, l_0, l_1, l_8, l_20, l_60, l_lt_t, l_lt_f, l_ge_t, l_ge_f, l_eq_t, l_eq_f, lN_i, nI_l, i_lt_t, i_lt_f, i_le_t, i_le_f, i_eq_t, i_eq_f, ↓n_m1, ↓n_m2, i_m1, i_m1s, i_m1lt, i_m1le, i_m1l2, i_m1l3, i_mm, nI_add, pk_mul, i_sub, i_dec, i_dec0, i_s01, i_div, Nat.reduceAdd, Nat.reduceSub, Nat.reduceMul, Nat.zero_add, if_true, if_false, not_true, not_false_eq_true, ↓reduceIte, hq, e2, m_mine, ha0, Nat.sub_self]) ⟨R, fl, ST_mono hI⟩ hN hB1
  have hb5 : b0 < ih := by omega
  have hge : 1 ≤ ih := by omega
  obtain ⟨s1, x1, j1, v1, K1, a1, ⟨a2, a3⟩, ⟨a4, a5, a6⟩, a7, a8, a9, a10⟩ := h_top hI (r := ih - 1) (by omega)
  have s24 : s1 < 24 := by omega
  have e7 : hn (ih - 1 - 0) = x1 := by rw [Nat.sub_zero, a3]
  have a72 := a7.2.2
  by_cases hm : s = s1
  rotate_left
  · obtain ⟨G1, hG1⟩ : ∃ G1, CO kn ks zs ps ce bt rt rl nb nr hsh hst ssh ih th wt os wn oc dr tm (nI a) g = G1 := ⟨_, rfl⟩
    obtain ⟨i1, i2, i3, e2, -⟩ := h2 G1 n m (d + 597)
    have hm2 : ¬ s1 = s := fun e => hm e.symm
    exact SS_mk1 (hoq := hq) (kn' := kn) (ks' := ks) (zs' := zs) (ps' := ps) (ce' := ce) (bt' := bt) (rt' := rt) (rl' := rl) (nb' := nb) (nr' := nr) (hsh' := hsh) (hst' := hst) (ssh' := ssh) (ih' := ih) (th' := th) (wt' := wt) (os' := os) (wn' := wn) (oc' := oc) (dr' := dr) (tm' := tm) (fa' := nI a) (ko' := ko) (q1' := q1) (q2' := q2) (q3' := q3) (cp' := cp) (so' := so) (ki' := ki) (nu' := nu) (no' := no) (sp' := sp) (hn' := hn) (sl' := sl) (ah' := ah) (isl' := i1) (inn' := i2) (atk' := i3) hq17 hg hG0 hG1 (r := .int mI) (by simp (disch := first | exact q_two_i _ | exact q_two_r _ | exact q_two_n | exact q_sh0 | exact q_sh1 _ | exact q_sh2 _ _ | exact q_sh3 _ _ _ | exact q_sh4 _ _ _ _ | exact c_cl_0 .. | exact c_cl_1 .. | exact c_cl_2 .. | exact c_cl_3 .. | exact c_cl_4 .. | exact c_tc_4_4 _ | exact c_tc_4_5 _ | exact c_tc_3_3 _ | exact c_tc_2_4 _ | exact c_tc_2_5 _ | exact c_tc_1_3 _ | exact c_tc_1_4 _ | exact c_tc_0_4 _ | exact c_tc_0_5 _ | exact c_tc_0_6 _ | exact z_01 | exact z_11 | exact nz_24 | exact nz_16 | assumption | omega) only [eB4_swap, x_aload_0, x_iload_1, x_iload_2, x_iv_2, x_kx1, x_kx0, x_istore_3, x_iload_3, x_iconst, x_ic_eq, x_getf, c_gf_4_2, x_iv_0, x_ret_i, c_gf_4_1, c_gf_4_5, c_gf_4_0, x_iv_1, x_iv_3, jB4_swap_23, jB4_swap_25, uB4_swap_0, uB4_swap_23, uB4_swap_25, n_0, n_1, n_2, n_3, n_4, n_5, n_6, n_7, n_8, n_9, n_10, n_12, n_13, n_15, n_16, n_20, n_24, n_60, n_64, n_72, n_96, n_192, n_256, n_400, n_808, n_960, n_1440, n_2048, n_2720, n_16777215, n_1000000, l_0, l_1, l_8, l_20, l_60, l_lt_t, l_lt_f, l_ge_t, l_ge_f, l_eq_t, l_eq_f, lN_i, nI_l, i_lt_t, i_lt_f, i_le_t, i_le_f, i_eq_t, i_eq_f, ↓n_m1, ↓n_m2, i_m1, i_m1s, i_m1lt, i_m1le, i_m1l2, i_m1l3, i_mm, nI_add, pk_mul, i_sub, i_dec, i_dec0, i_s01, i_div, Nat.reduceAdd, Nat.reduceSub, Nat.reduceMul, Nat.zero_add, if_true, if_false, not_true, not_false_eq_true, ↓reduceIte, e1, c_top, a2]) (by simp (disch := first | exact q_two_i _ | exact q_two_r _ | exact q_two_n | exact q_sh0 | exact q_sh1 _ | exact q_sh2 _ _ | exact q_sh3 _ _ _ | exact q_sh4 _ _ _ _ | exact c_cl_5 hq | exact c_tc_5_3 _ | exact c_tc_5_7 _ | exact c_tc_5_8 _ | exact c_tc_5_12 _ | exact c_tc_5_13 _ | exact c_tc_5_15 _ | exact c_tc_5_16 _ | exact c_tc_5_17 _ | exact c_tc_5_18 _ | exact c_tc_5_19 _ | exact c_tc_5_21 _ | exact c_tc_5_22 _ | exact c_tc_5_20a | exact c_tc_5_20b | exact z_01 | exact z_11 | exact nz_24 | exact nz_16 | assumption | omega) only [eB5_swap, x_aload_0, x_iload_1, x_iload_2, x_iv_2, x_kx1, x_kx0, x_istore_3, x_iload_3, x_if_eq, x_iv_0, x_iconst, x_ic_lt, x_getf, c_gf_5_4, x_iv_1, x_iaload, x_ic_eq, x_ret_i, c_gf_5_9, c_gf_5_12, x_isub, x_iastore, jB5_swap_38, jB5_swap_40, uB5_swap_0, uB5_swap_38, uB5_swap_40, n_0, n_1, n_2, n_3, n_4, n_5, n_6, n_7, n_8, n_9, n_10, n_12, n_13, n_15, n_16, n_20, n_24, n_60, n_64, n_72, n_96, n_192, n_256, n_400, n_808, n_960, n_1440, n_2048, n_2720, n_16777215, n_1000000, l_0, l_1, l_8, l_20, l_60, l_lt_t, l_lt_f, l_ge_t, l_ge_f, l_eq_t, l_eq_f, lN_i, nI_l, i_lt_t, i_lt_f, i_le_t, i_le_f, i_eq_t, i_eq_f, ↓n_m1, ↓n_m2, i_m1, i_m1s, i_m1lt, i_m1le, i_m1l2, i_m1l3, i_mm, nI_add, pk_mul, i_sub, i_dec, i_dec0, i_s01, i_div, Nat.reduceAdd, Nat.reduceSub, Nat.reduceMul, Nat.zero_add, if_true, if_false, not_true, not_false_eq_true, ↓reduceIte, hq, e2, m_mine, ha0, m_top, e7, c_g_q1, a4, p4]) ⟨R, fl, ST_mono hI⟩ hN hB1
  subst hm
  have hz8 := (hS.2 s a8).2.2.1
  have hb : ih - 1 < 120 := by omega
  have hr : 24 + j0 < 120 := by omega
  have hrb : 24 + j0 ≠ ih - 1 := by omega
  have had : (ih - 1) * 8 + zs s ≤ a := by omega
  obtain ⟨G1, hG1⟩ : ∃ G1, CO kn ks zs ps (swC ce ((ih - 1) * 8) a (zs s)) bt rt rl nb nr hsh hst ssh ih th wt os wn oc dr tm (nI a) g = G1 := ⟨_, rfl⟩
  obtain ⟨i1, i2, i3, e2, hh⟩ := h2 G1 n m (d + 597)
  obtain ⟨ki2, sl2, hpt, hk2, hsl⟩ := hang_put hI (x1 := x1) (j1 := j1) (v1 := v1) (K1 := K1) hj hp hh ki
  have hNl : p = [] → N = .leaf := fun e => by
    subst e
    have h5 := (hT _ hr).1
    have h6 : R (24 + j0) = .inner s (x, j) v K N := by simpa only [b_at] using hp
    rw [h6] at h5
    simp only [f_len] at h5
    exact f_len0 (by omega)
  obtain ⟨r1, r2⟩ := IR_set hR hr hb hrb hp a1 hNl (ki1 := ki) (fun _ _ _ _ => rfl) hk2
  have hii : ∀ c, ¬ (a ≤ c ∧ c < a + zs s) → ¬ (8 * (ih - 1) ≤ c ∧ c < 8 * (ih - 1) + 8) → swC ce ((ih - 1) * 8) a (zs s) c = ce c := fun c g1 g2 => by
    unfold swC; rw [if_neg (by omega), if_neg g1]
  obtain ⟨q1c, q2c⟩ := C_set (ce2 := swC ce ((ih - 1) * 8) a (zs s)) hS hk hT hC hr hb hrb hp a1 hy (fun i hi => by
    unfold swC; rw [if_neg (by omega), if_pos (by omega)]; congr 1; omega) hii
  have q3c := C_get (ce2 := swC ce ((ih - 1) * 8) a (zs s)) hS hk hT hC hr hb hp hy ⟨p1, p2, p3, trivial⟩ pC (fun i hi => by
    unfold swC; rw [if_pos (by omega)]; congr 1; omega) hii
  have hr3 : f_okR so ki2 nu (.inner s (x, j) v K .leaf) := by
    rcases hk2 with ⟨rfl, rfl⟩ | ⟨pp, i, s2, x2, j2, v2, K2, N2, rfl, hp2, hi8, rfl⟩
    · have := fb_Rat [] _ (hR.1 _ hr)
      rw [hp] at this
      exact ⟨this.1, this.2.1, trivial⟩
    · have h5 := fb_Rat (pp ++ true :: List.replicate i false) _ (hR.1 _ hr)
      rw [hp] at h5
      have hle2 := fb_Ale (fA_cx x2) pp _ hp2
      have hpk : b_at K2 (List.replicate i false) = .inner s (x, j) v K N := by
        rw [b_at_app, hp2] at hp; exact hp
      have hle3 := fb_Ale (fA_cx x2) (List.replicate i false) K2 hpk
      have hge2 := rF_ge (f_cx x2) R hr
      have hu2 := hR.2.1 x2
      simp only [if_true] at hle2 hle3
      refine f_okR_kp (F := .inner s (x, j) v K .leaf) ⟨h5.1, h5.2.1, trivial⟩ (fun z hz => ⟨rfl, rfl, fun t ht => upN_n _ _ (fun e => ?_)⟩)
      have : z = x2 := by omega
      subst this
      simp only [f_cx] at hz
      omega
  have hIT : IT kn ks ps (upN (upN R (ih - 1) (.inner s (x, j) v K .leaf)) (24 + j0) (b_set (x1, j1) v1 K1 (R (24 + j0)) p)) := IT_up (IT_up hT (F := .inner s (x, j) v K .leaf) (by simp [f_len]) ⟨p1, p2, p3, trivial⟩) (by rw [fb_len]; exact (hT _ hr).1) (fb_T a9 a10 p _ hp (hT _ hr).2)
  have hST : ST (c + 1) kn ks zs ps (swC ce ((ih - 1) * 8) a (zs s)) bt rt rl nb nr hsh hst ssh ih th oc ko q1 q2 q3 cp so (ki2) nu no sp (upN hn (ih - 1) x) (sl2) ah (upN (upN R (ih - 1) (.inner s (x, j) v K .leaf)) (24 + j0) (b_set (x1, j1) v1 K1 (R (24 + j0)) p)) fl := by
    refine ⟨⟨hS, hk⟩, hK, hF, hIT, ⟨fun r hr' => ?_, fun r h h' => ?_, fun r hr' => ?_, fun i hi => ?_⟩, ⟨fun r hr' => ?_, fun z => ?_, fun z => ?_, ?_, ?_⟩, ⟨fun r hr' => ?_, fun z => ?_, fun z hz => ?_, ?_⟩, hO, ⟨?_, hBd.2⟩, ⟨hq, hq17⟩, hcp.1, hcp.2.1, hcp.2.2.1, by omega⟩
    · rw [upN_n _ _ (by omega)]
      by_cases e : r = ih - 1
      · subst e; rw [upN_s]; exact ⟨fun _ => by omega, fun _ => rfl⟩
      · rw [upN_n _ _ e]; exact hL.1 r hr'
    · have hlf := hL.2.1 r h h'
      by_cases e : r = 24 + j0
      · subst e
        exfalso
        rw [hlf] at hp
        cases p <;> simp [b_at] at hp
      · rw [upN_n _ _ e, upN_n _ _ (by omega)]; exact hlf
    · rw [upN_n _ _ (by omega)]
      by_cases e : r = ih - 1
      · subst e; rw [upN_s, upN_s]; exact ⟨a2, rfl⟩
      · rw [upN_n _ _ e, upN_n _ _ e]; exact hL.2.2.1 r hr'
    · rw [hsl i hi]
      by_cases e : i = j0
      · subst e; rw [upN_s, s_slot_b, if_pos rfl]; exact ⟨(hL.2.2.2 i hi).1, rfl⟩
      · rw [upN_n _ _ (by omega), upN_n _ _ (by omega), if_neg e]; exact hL.2.2.2 i hi
    · by_cases e : r = 24 + j0
      · subst e; rw [upN_s]; exact q1c
      · rw [upN_n _ _ e]
        by_cases e2 : r = ih - 1
        · subst e2; rw [upN_s]; exact q3c
        · rw [upN_n _ _ e2]; exact q2c r hr' e2 e
    · rw [rF_sw (fA_cb ks 4 z) hr hb hrb hp a1]; exact hC.2.1 z
    · rw [rF_sw (fA_cb ks 5 z) hr hb hrb hp a1]; exact hC.2.2.1 z
    · rw [rF_sw (fA_nk ks 4) hr hb hrb hp a1]; exact hC.2.2.2.1
    · rw [rF_sw (fA_nk ks 5) hr hb hrb hp a1]; exact hC.2.2.2.2
    · by_cases e : r = 24 + j0
      · subst e; rw [upN_s]; exact r1
      · rw [upN_n _ _ e]
        by_cases e2 : r = ih - 1
        · subst e2; rw [upN_s]; exact hr3
        · rw [upN_n _ _ e2]; exact r2 r hr' e
    · rw [rF_sw (fA_cx z) hr hb hrb hp a1]; exact hR.2.1 z
    · rw [rF_sw (fA_cx z) hr hb hrb hp a1] at hz; exact hR.2.2.1 z hz
    · refine fr_keep hR.2.2.2 (fun z hz => ?_)
      rcases hk2 with ⟨rfl, rfl⟩ | ⟨pp, i, s2, x2, j2, v2, K2, N2, rfl, hp2, hi8, rfl⟩
      · rfl
      · refine upN_n _ _ (fun e => ?_)
        have : z = x2 := by omega
        subst this
        have hle2 := fb_Ale (fA_cx z) pp _ hp2
        simp only [if_true] at hle2
        have hge2 := rF_ge (f_cx z) R hr
        have hu2 := hR.2.1 z
        have := List.count_pos_iff.mpr hz
        omega
    · rw [rF_sw fA_sz hr hb hrb hp a1]; omega
  have h3q : q2 ≠ 0 := by omega
  rcases hpt with ⟨g1, g2, h8, h9⟩ | ⟨g1, g2, g3, h8, h9⟩
  · rw [h8, h9] at hST
    exact SS_mk1 (hoq := hq) (kn' := kn) (ks' := ks) (zs' := zs) (ps' := ps) (ce' := swC ce ((ih - 1) * 8) a (zs s)) (bt' := bt) (rt' := rt) (rl' := rl) (nb' := nb) (nr' := nr) (hsh' := hsh) (hst' := hst) (ssh' := ssh) (ih' := ih) (th' := th) (wt' := wt) (os' := os) (wn' := wn) (oc' := oc) (dr' := dr) (tm' := tm) (fa' := nI a) (ko' := ko) (q1' := q1) (q2' := q2) (q3' := q3) (cp' := cp) (so' := so) (ki' := ki) (nu' := nu) (no' := no) (sp' := sp) (hn' := upN hn (ih - 1) x) (sl' := upN sl i2 x1) (ah' := ah) (isl' := i1) (inn' := i2) (atk' := i3) hq17 hg hG0 hG1 (r := .int (nI 1)) (by simp (disch := first | exact q_two_i _ | exact q_two_r _ | exact q_two_n | exact q_sh0 | exact q_sh1 _ | exact q_sh2 _ _ | exact q_sh3 _ _ _ | exact q_sh4 _ _ _ _ | exact c_cl_0 .. | exact c_cl_1 .. | exact c_cl_2 .. | exact c_cl_3 .. | exact c_cl_4 .. | exact c_tc_4_4 _ | exact c_tc_4_5 _ | exact c_tc_3_3 _ | exact c_tc_2_4 _ | exact c_tc_2_5 _ | exact c_tc_1_3 _ | exact c_tc_1_4 _ | exact c_tc_0_4 _ | exact c_tc_0_5 _ | exact c_tc_0_6 _ | exact z_01 | exact z_11 | exact nz_24 | exact nz_16 | assumption | omega) only [eB4_swap, x_aload_0, x_iload_1, x_iload_2, x_iv_2, x_kx1, x_kx0, x_istore_3, x_iload_3, x_iconst, x_ic_eq, x_getf, c_gf_4_2, x_iv_0, x_ret_i, c_gf_4_1, c_gf_4_5, c_gf_4_0, x_iv_1, x_iv_3, jB4_swap_23, jB4_swap_25, uB4_swap_0, uB4_swap_23, uB4_swap_25, n_0, n_1, n_2, n_3, n_4, n_5, n_6, n_7, n_8, n_9, n_10, n_12, n_13, n_15, n_16, n_20, n_24, n_60, n_64, n_72, n_96, n_192, n_256, n_400, n_808, n_960, n_1440, n_2048, n_2720, n_16777215, n_1000000, l_0, l_1, l_8, l_20, l_60, l_lt_t, l_lt_f, l_ge_t, l_ge_f, l_eq_t, l_eq_f, lN_i, nI_l, i_lt_t, i_lt_f, i_le_t, i_le_f, i_eq_t, i_eq_f, ↓n_m1, ↓n_m2, i_m1, i_m1s, i_m1lt, i_m1le, i_m1l2, i_m1l3, i_mm, nI_add, pk_mul, i_sub, i_dec, i_dec0, i_s01, i_div, Nat.reduceAdd, Nat.reduceSub, Nat.reduceMul, Nat.zero_add, if_true, if_false, not_true, not_false_eq_true, ↓reduceIte, e1, c_top, a2, c_tAt, c_size, c_swp]) (by simp (disch := first | exact q_two_i _ | exact q_two_r _ | exact q_two_n | exact q_sh0 | exact q_sh1 _ | exact q_sh2 _ _ | exact q_sh3 _ _ _ | exact q_sh4 _ _ _ _ | exact c_cl_5 hq | exact c_tc_5_3 _ | exact c_tc_5_7 _ | exact c_tc_5_8 _ | exact c_tc_5_12 _ | exact c_tc_5_13 _ | exact c_tc_5_15 _ | exact c_tc_5_16 _ | exact c_tc_5_17 _ | exact c_tc_5_18 _ | exact c_tc_5_19 _ | exact c_tc_5_21 _ | exact c_tc_5_22 _ | exact c_tc_5_20a | exact c_tc_5_20b | exact z_01 | exact z_11 | exact nz_24 | exact nz_16 | assumption | omega) only [eB5_swap, x_aload_0, x_iload_1, x_iload_2, x_iv_2, x_kx1, x_kx0, x_istore_3, x_iload_3, x_if_eq, x_iv_0, x_iconst, x_ic_lt, x_getf, c_gf_5_4, x_iv_1, x_iaload, x_ic_eq, x_ret_i, c_gf_5_9, c_gf_5_12, x_isub, x_iastore, jB5_swap_38, jB5_swap_40, uB5_swap_0, uB5_swap_38, uB5_swap_40, n_0, n_1, n_2, n_3, n_4, n_5, n_6, n_7, n_8, n_9, n_10, n_12, n_13, n_15, n_16, n_20, n_24, n_60, n_64, n_72, n_96, n_192, n_256, n_400, n_808, n_960, n_1440, n_2048, n_2720, n_16777215, n_1000000, l_0, l_1, l_8, l_20, l_60, l_lt_t, l_lt_f, l_ge_t, l_ge_f, l_eq_t, l_eq_f, lN_i, nI_l, i_lt_t, i_lt_f, i_le_t, i_le_f, i_eq_t, i_eq_f, ↓n_m1, ↓n_m2, i_m1, i_m1s, i_m1lt, i_m1le, i_m1l2, i_m1l3, i_mm, nI_add, pk_mul, i_sub, i_dec, i_dec0, i_s01, i_div, Nat.reduceAdd, Nat.reduceSub, Nat.reduceMul, Nat.zero_add, if_true, if_false, not_true, not_false_eq_true, ↓reduceIte, hq, e2, m_mine, ha0, m_top, e7, c_g_q1, a4, p4, m_putS, c_p_25]) ⟨_, fl, hST⟩ hN hB1
  · rw [h8, h9] at hST
    exact SS_mk1 (hoq := hq) (kn' := kn) (ks' := ks) (zs' := zs) (ps' := ps) (ce' := swC ce ((ih - 1) * 8) a (zs s)) (bt' := bt) (rt' := rt) (rl' := rl) (nb' := nb) (nr' := nr) (hsh' := hsh) (hst' := hst) (ssh' := ssh) (ih' := ih) (th' := th) (wt' := wt) (os' := os) (wn' := wn) (oc' := oc) (dr' := dr) (tm' := tm) (fa' := nI a) (ko' := ko) (q1' := q1) (q2' := q2) (q3' := q3) (cp' := cp) (so' := so) (ki' := upN ki (8 * i2 + i3) x1) (nu' := nu) (no' := no) (sp' := sp) (hn' := upN hn (ih - 1) x) (sl' := sl) (ah' := ah) (isl' := i1) (inn' := i2) (atk' := i3) hq17 hg hG0 hG1 (r := .int (nI 1)) (by simp (disch := first | exact q_two_i _ | exact q_two_r _ | exact q_two_n | exact q_sh0 | exact q_sh1 _ | exact q_sh2 _ _ | exact q_sh3 _ _ _ | exact q_sh4 _ _ _ _ | exact c_cl_0 .. | exact c_cl_1 .. | exact c_cl_2 .. | exact c_cl_3 .. | exact c_cl_4 .. | exact c_tc_4_4 _ | exact c_tc_4_5 _ | exact c_tc_3_3 _ | exact c_tc_2_4 _ | exact c_tc_2_5 _ | exact c_tc_1_3 _ | exact c_tc_1_4 _ | exact c_tc_0_4 _ | exact c_tc_0_5 _ | exact c_tc_0_6 _ | exact z_01 | exact z_11 | exact nz_24 | exact nz_16 | assumption | omega) only [eB4_swap, x_aload_0, x_iload_1, x_iload_2, x_iv_2, x_kx1, x_kx0, x_istore_3, x_iload_3, x_iconst, x_ic_eq, x_getf, c_gf_4_2, x_iv_0, x_ret_i, c_gf_4_1, c_gf_4_5, c_gf_4_0, x_iv_1, x_iv_3, jB4_swap_23, jB4_swap_25, uB4_swap_0, uB4_swap_23, uB4_swap_25, n_0, n_1, n_2, n_3, n_4, n_5, n_6, n_7, n_8, n_9, n_10, n_12, n_13, n_15, n_16, n_20, n_24, n_60, n_64, n_72, n_96, n_192, n_256, n_400, n_808, n_960, n_1440, n_2048, n_2720, n_16777215, n_1000000, l_0, l_1, l_8, l_20, l_60, l_lt_t, l_lt_f, l_ge_t, l_ge_f, l_eq_t, l_eq_f, lN_i, nI_l, i_lt_t, i_lt_f, i_le_t, i_le_f, i_eq_t, i_eq_f, ↓n_m1, ↓n_m2, i_m1, i_m1s, i_m1lt, i_m1le, i_m1l2, i_m1l3, i_mm, nI_add, pk_mul, i_sub, i_dec, i_dec0, i_s01, i_div, Nat.reduceAdd, Nat.reduceSub, Nat.reduceMul, Nat.zero_add, if_true, if_false, not_true, not_false_eq_true, ↓reduceIte, e1, c_top, a2, c_tAt, c_size, c_swp]) (by simp (disch := first | exact q_two_i _ | exact q_two_r _ | exact q_two_n | exact q_sh0 | exact q_sh1 _ | exact q_sh2 _ _ | exact q_sh3 _ _ _ | exact q_sh4 _ _ _ _ | exact c_cl_5 hq | exact c_tc_5_3 _ | exact c_tc_5_7 _ | exact c_tc_5_8 _ | exact c_tc_5_12 _ | exact c_tc_5_13 _ | exact c_tc_5_15 _ | exact c_tc_5_16 _ | exact c_tc_5_17 _ | exact c_tc_5_18 _ | exact c_tc_5_19 _ | exact c_tc_5_21 _ | exact c_tc_5_22 _ | exact c_tc_5_20a | exact c_tc_5_20b | exact z_01 | exact z_11 | exact nz_24 | exact nz_16 | assumption | omega) only [eB5_swap, x_aload_0, x_iload_1, x_iload_2, x_iv_2, x_kx1, x_kx0, x_istore_3, x_iload_3, x_if_eq, x_iv_0, x_iconst, x_ic_lt, x_getf, c_gf_5_4, x_iv_1, x_iaload, x_ic_eq, x_ret_i, c_gf_5_9, c_gf_5_12, x_isub, x_iastore, jB5_swap_38, jB5_swap_40, uB5_swap_0, uB5_swap_38, uB5_swap_40, n_0, n_1, n_2, n_3, n_4, n_5, n_6, n_7, n_8, n_9, n_10, n_12, n_13, n_15, n_16, n_20, n_24, n_60, n_64, n_72, n_96, n_192, n_256, n_400, n_808, n_960, n_1440, n_2048, n_2720, n_16777215, n_1000000, l_0, l_1, l_8, l_20, l_60, l_lt_t, l_lt_f, l_ge_t, l_ge_f, l_eq_t, l_eq_f, lN_i, nI_l, i_lt_t, i_lt_f, i_le_t, i_le_f, i_eq_t, i_eq_f, ↓n_m1, ↓n_m2, i_m1, i_m1s, i_m1lt, i_m1le, i_m1l2, i_m1l3, i_mm, nI_add, pk_mul, i_sub, i_dec, i_dec0, i_s01, i_div, Nat.reduceAdd, Nat.reduceSub, Nat.reduceMul, Nat.zero_add, if_true, if_false, not_true, not_false_eq_true, ↓reduceIte, hq, e2, m_mine, ha0, m_top, e7, c_g_q1, a4, p4, m_putK, c_p_25]) ⟨_, fl, hST⟩ hN hB1
