/-! A node taken away, its kids laid on the hand; open. -/
theorem f_spr_P {P : Fo → Prop} (hP : ∀ s k v K N, P (.inner s k v K N) → P (.inner s k v K .leaf) ∧ P N) {R : Nat → Fo} : ∀ (K : Fo) (b r : Nat), P K → b ≤ r → r < b + f_len K → P (f_spr R K b r)
  | .leaf, b, r, _, h1, h2 => by simp only [f_len] at h2; omega
  | .inner s k v K N, b, r, h, h1, h2 => by
    simp only [f_len] at h2
    simp only [f_spr]
    by_cases e : r = b
    · subst e; rw [upN_s]; exact (hP _ _ _ _ _ h).1
    · rw [upN_n _ _ e]; exact f_spr_P hP N (b + 1) r (hP _ _ _ _ _ h).2 (by omega) (by omega)
theorem f_spr_l {R : Nat → Fo} : ∀ (K : Fo) (b i : Nat), i < f_len K → f_len (f_spr R K b (b + i)) = 1 ∧ f_sh (f_spr R K b (b + i)) 0 = f_sh K i ∧ f_rt (f_spr R K b (b + i)) 0 = f_rt K i
  | .leaf, b, i, h => by simp [f_len] at h
  | .inner s k v K N, b, 0, h => by simp only [f_spr, Nat.add_zero, upN_s]; exact ⟨rfl, rfl, rfl⟩
  | .inner s k v K N, b, i + 1, h => by
    simp only [f_len] at h
    simp only [f_spr]
    rw [upN_n _ _ (by omega), show b + (i + 1) = b + 1 + i by omega]
    exact f_spr_l N (b + 1) i (by omega)
/-- cells ahead of tree i -/
def f_of (zs : Nat → Nat) (w : Bool) : Fo → Nat → Nat
  | .leaf, _ => 0
  | .inner _ _ _ _ _, 0 => 0
  | .inner s _ _ _ N, i + 1 => (if w then 8 else zs s) + f_of zs w N i
theorem okC_spr {kn : Nat} {ks zs : Nat → Nat} {ps : Nat → Int32} {ce ce2 : Nat → Int64} {rl : Nat → Nat} {R : Nat → Fo} {w : Bool} (hS : s_ok kn ks zs ps) (hk : kn ≤ 24) (h9 : ∀ p, 960 ≤ p → ce2 p = ce p) : ∀ (K : Fo) (a b : Nat), f_okT kn ks ps K → f_okC ks zs ce rl K a w → (∀ i, i < f_len K → ∀ t, t < zs (f_sh K i) → ce2 (8 * (b + i) + t) = ce (a + f_of zs w K i + t)) → ∀ r, b ≤ r → r < b + f_len K → f_okC ks zs ce2 rl (f_spr R K b r) (8 * r) false
  | .leaf, a, b, _, _, _, r, h1, h2 => by simp only [f_len] at h2; omega
  | .inner s k v K N, a, b, hT, hC, hc, r, h1, h2 => by
    simp only [f_len] at h2 hc
    simp only [f_spr]
    by_cases e : r = b
    · subst e
      rw [upN_s]
      refine f_okC_mv hS hk (.inner s k v K .leaf) a (8 * r) false ⟨hT.1, hT.2.1, hT.2.2.1, trivial⟩ ⟨hC.1, trivial⟩ (fun i hi => ?_) (fun j _ i _ => h9 _ (by omega)) (fun j _ => ⟨rfl, fun i _ => h9 _ (by omega)⟩)
      simp only [f_ext, Bool.false_eq_true, if_false, Nat.add_zero] at hi
      have := hc 0 (by omega) i (by simpa only [f_sh] using hi)
      simpa only [f_of, Nat.add_zero] using this
    · rw [upN_n _ _ e]
      refine okC_spr hS hk h9 N (a + if w then 8 else zs s) (b + 1) hT.2.2.2 hC.2 (fun i hi t ht => ?_) r (by omega) (by omega)
      have := hc (i + 1) (by omega) t (by simpa only [f_sh] using ht)
      simp only [f_of] at this
      rw [show b + 1 + i = b + (i + 1) by omega, this]
      congr 1; omega
theorem ST_unw {c : Nat} {kn : Nat} {ks zs : Nat → Nat} {ps : Nat → Int32} {ce : Nat → Int64} {bt rt rl : Nat → Nat} {nb nr : Nat} {hsh hst : Nat → Nat} {ssh : Nat → Int32} {ih th oc : Nat} {ko : Nat → Int32} {q1 q2 q3 cp : Nat} {so ki : Nat → Nat} {nu : Nat → Int64} {no sp : Nat} {hn sl ah : Nat → Nat} {R : Nat → Fo} {fl : List Nat} (hI : ST c kn ks zs ps ce bt rt rl nb nr hsh hst ssh ih th oc ko q1 q2 q3 cp so ki nu no sp hn sl ah R fl) {s x j : Nat} {v : Int64} {K : Fo} {ce2 : Nat → Int64} {bt2 rt2 : Nat → Nat} {nb2 nr2 : Nat} {hsh2 hn2 : Nat → Nat} (hb : hst (th - 1) < ih) (hr : R (ih - 1) = .inner s (x, j) v K .leaf) (hk : ih - 1 + f_len K ≤ 24) (h1 : ∀ p, p < 8 * (ih - 1) ∨ 192 ≤ p → ce2 p = ce p)
    (h4 : ∀ i, i < f_len K → ∀ t, t < zs (f_sh K i) → ce2 (8 * (ih - 1 + i) + t) = ce (f_ka ks s j (8 * (ih - 1)) + f_of zs (f_kw ks s) K i + t)) (h5 : ∀ z, bt2 z + (if ks s = 4 ∧ j = z then 1 else 0) = bt z) (h6 : ∀ z, rt2 z + (if ks s = 5 ∧ j = z then 1 else 0) = rt z) (h7 : nb2 + (if ks s = 4 then 1 else 0) = nb) (h8 : nr2 + (if ks s = 5 then 1 else 0) = nr)
    (h9 : ∀ r, r < ih - 1 → hsh2 r = hsh r ∧ hn2 r = hn r) (h10 : ∀ i, i < f_len K → hsh2 (ih - 1 + i) = f_sh K i ∧ hn2 (ih - 1 + i) = f_rt K i) :
    ST (c + 1) kn ks zs ps (ce2) (bt2) (rt2) rl (nb2) (nr2) (hsh2) hst ssh (ih - 1 + f_len K) th oc ko q1 q2 q3 cp so (upN ki (8 * x) sp) nu no (x) (hn2) sl ah (f_spr (upN R (ih - 1) .leaf) K (ih - 1)) (x :: fl) := by
  obtain ⟨⟨hS, hkn⟩, hK, hF, hT, hL, hC, hR, hO, hBd, hQ, hcp⟩ := id hI
  obtain ⟨⟨f1, f2⟩, f3, f4, f5, f6, f7⟩ := hF
  obtain ⟨b, hbb⟩ : ∃ b, ih - 1 = b := ⟨_, rfl⟩
  rw [hbb] at hr hk h1 h4 h9 h10 ⊢
  have hTb := (hT b (by omega)).2
  have hCb := hC.1 b (by omega)
  have hRb := hR.1 b (by omega)
  rw [hr] at hTb hCb hRb
  have h5s := (hS.2 s hTb.1).1
  rw [f_okC_iff h5s hTb.2.1] at hCb
  have hlf : ∀ r, b ≤ r → r < b + f_len K → upN R b .leaf r = .leaf := fun r h11 h12 => by
    by_cases e : r = b
    · subst e; rw [upN_s]
    · rw [upN_n _ _ e]
      have := (hL.1 r (by omega)).mp
      have h13 := (hT r (by omega)).1
      exact f_len0 (by rcases Nat.lt_or_ge (f_len (R r)) 1 with q | q
                       · omega
                       · exact absurd (this (by omega)) (by omega))
  have hA : ∀ {f : Fo → Nat} {φ : Nat → Nat × Nat → Nat}, fA f φ → rF f (f_spr (upN R b .leaf) K b) + φ s (x, j) = rF f R := fun {f φ} h => by
    have e1 := rF_spr h (upN R b .leaf) K b (by omega) hlf
    have e2 := rF_up f R b .leaf (by omega)
    rw [hr, h.2, h.1] at e2
    omega
  have hxR := fun z => rF_ge (f_cx z) R (show b < 120 by omega)
  have hx1 : f_cx x (R b) = 1 + f_cx x K := by rw [hr]; simp only [f_cx, if_true, Nat.add_zero]
  have hx2 := hR.2.1 x
  have hx3 := hxR x
  have hx0 : f_cx x K = 0 ∧ fl.count x = 0 := by omega
  have hx4 := hR.2.2.1 x (by omega)
  have hki : ∀ z, z ≠ x → ∀ i, i < 8 → upN ki (8 * x) sp (8 * z + i) = ki (8 * z + i) := fun z hz i hi => upN_n _ _ (by omega)
  have hcx : ∀ z, rF (f_cx z) (f_spr (upN R b .leaf) K b) + (x :: fl).count z = rF (f_cx z) R + fl.count z := fun z => by
    have := hA (fA_cx z)
    dsimp only at this
    rw [List.count_cons]
    simp only [beq_iff_eq]
    omega
  have hsz := hA fA_sz
  refine ⟨⟨hS, hkn⟩, hK, ⟨⟨f1, f2⟩, by omega, f4, f5, by omega, f7⟩, fun r hr' => ?_, ⟨fun r hr' => ?_, fun r hr' hr2 => ?_, fun r hr' => ?_, fun i hi => ?_⟩, ⟨fun r hr' => ?_, fun z => ?_, fun z => ?_, ?_, ?_⟩, ⟨fun r hr' => ?_, fun z => by rw [hcx]; exact hR.2.1 z, fun z hz => hR.2.2.1 z (by rw [← hcx]; exact hz), ?_⟩, hO, ⟨by omega, by omega, by omega⟩, hQ, hcp.1, hcp.2.1, hcp.2.2.1, by omega⟩
  · by_cases e : b ≤ r ∧ r < b + f_len K
    · obtain ⟨i, rfl⟩ : ∃ i, r = b + i := ⟨r - b, by omega⟩
      exact ⟨by rw [(f_spr_l K b i (by omega)).1]; omega, f_spr_P (P := f_okT kn ks ps) (fun s k v K N h => ⟨⟨h.1, h.2.1, h.2.2.1, trivial⟩, h.2.2.2⟩) K b _ hTb.2.2.1 (by omega) (by omega)⟩
    · rw [f_spr_n _ _ _ _ (by omega)]; exact IT_lf hT b r hr'
  · by_cases e : b ≤ r ∧ r < b + f_len K
    · obtain ⟨i, rfl⟩ : ∃ i, r = b + i := ⟨r - b, by omega⟩
      rw [(f_spr_l K b i (by omega)).1]; omega
    · rw [f_spr_n _ _ _ _ (by omega)]
      by_cases e2 : r = b
      · subst e2; rw [upN_s]; simp only [f_len]; omega
      · rw [upN_n _ _ e2, hL.1 r hr']; omega
  · rw [f_spr_n _ _ _ _ (by omega), upN_n _ _ (by omega)]; exact hL.2.1 r hr' hr2
  · by_cases e : b ≤ r
    · obtain ⟨i, rfl⟩ : ∃ i, r = b + i := ⟨r - b, by omega⟩
      have e1 := f_spr_l (R := upN R b .leaf) K b i (by omega)
      have e2 := h10 i (by omega)
      rw [e1.2.1, e1.2.2]; exact e2
    · rw [f_spr_n _ _ _ _ (by omega), upN_n _ _ (by omega), (h9 r (by omega)).1, (h9 r (by omega)).2]; exact hL.2.2.1 r (by omega)
  · rw [f_spr_n _ _ _ _ (by omega), upN_n _ _ (by omega)]; exact hL.2.2.2 i hi
  · by_cases e : b ≤ r ∧ r < b + f_len K
    · exact okC_spr hS hkn (fun p hp => h1 p (by omega)) K _ b hTb.2.2.1 hCb.2.1 h4 r e.1 e.2
    · rw [f_spr_n _ _ _ _ (by omega)]
      by_cases e2 : r = b
      · subst e2; rw [upN_s]; trivial
      · rw [upN_n _ _ e2]
        by_cases e3 : r < b ∨ 24 ≤ r
        · exact okC_oth hS hkn hT hC (fun j _ i _ => h1 _ (by omega)) (fun j _ => ⟨rfl, fun i _ => h1 _ (by omega)⟩) hr' (fun i hi => h1 _ (by omega))
        · have h13 := (hT r (by omega)).1
          have h14 := (hL.1 r (by omega)).mp
          have : R r = .leaf := f_len0 (by rcases Nat.lt_or_ge (f_len (R r)) 1 with q | q
                                           · omega
                                           · exact absurd (h14 (by omega)) (by omega))
          rw [this]; trivial
  · have e1 := hA (fA_cb ks 4 z)
    have e2 := h5 z
    have e3 := hC.2.1 z
    dsimp only at e1
    omega
  · have e1 := hA (fA_cb ks 5 z)
    have e2 := h6 z
    have e3 := hC.2.2.1 z
    dsimp only at e1
    omega
  · have e1 := hA (fA_nk ks 4)
    have e3 := hC.2.2.2.1
    omega
  · have e1 := hA (fA_nk ks 5)
    have e3 := hC.2.2.2.2
    omega
  · by_cases e : b ≤ r ∧ r < b + f_len K
    · refine f_spr_P (P := f_okR so (upN ki (8 * x) sp) nu) (fun s k v K N h => ⟨⟨h.1, h.2.1, trivial⟩, h.2.2⟩) K b _ (f_okR_kp hRb.2.1 (fun z hz => ⟨rfl, rfl, hki z (fun e => ?_)⟩)) e.1 e.2
      subst e; omega
    · rw [f_spr_n _ _ _ _ (by omega)]
      by_cases e2 : r = b
      · subst e2; rw [upN_s]; trivial
      · rw [upN_n _ _ e2]
        refine f_okR_kp (hR.1 r hr') (fun z hz => ⟨rfl, rfl, hki z (fun e => ?_)⟩)
        subst e
        have := rF_two (f_cx z) R hr' (show b < 120 by omega) e2
        omega
  · refine ⟨rfl, by omega, ?_⟩
    rw [upN_s]
    refine fr_keep hR.2.2.2 (fun z hz => ?_)
    have hzx : z ≠ x := fun e => by
      subst e
      have := List.count_pos_iff.mpr hz
      omega
    exact hki z hzx 0 (by omega)
theorem c_op {kn : Nat} {ks zs : Nat → Nat} {ps : Nat → Int32} {ce : Nat → Int64} {bt rt rl : Nat → Nat} {nb nr : Nat} {hsh hst : Nat → Nat} {ssh : Nat → Int32} {ih th : Nat} {wt : Nat → Nat} {os : Nat → Int64} {wn oc dr tm : Nat} {fa : Int32} {g : Nat → Option am_E} {n m d : Nat} (s p b0 j : Nat) (hk : kn ≤ 24) (hsh1 : hsh (ih - 1) = s) (hs : s < kn) (tk : ks s = 4) (hp : ps (s * 3 + 0) = nI p) (hp2 : p < kn) (h : 0 < th) (h2 : th ≤ 12) (hb : hst (th - 1) = b0) (h3 : b0 < ih) (h4 : ih ≤ 24) (hj : j < 60) (hc : ce ((ih - 1) * 8) = lN j) (hbt : bt j = 1) (hz : zs p ≤ 8) (h60 : 0 < nb) (h61 : nb ≤ 60) : ev (d + 4) 68 [.ref 1] (n, m, CO kn ks zs ps ce bt rt rl nb nr hsh hst ssh ih th wt os wn oc dr tm fa g) = some (some (.int (nI 1)), (n, m, CO kn ks zs ps (va_cpy ce ce (960 + j * 8) ((ih - 1) * 8) (zs p)) (upN bt j 0) rt rl (nb - 1) nr (upN hsh (ih - 1) p) hst ssh ih th wt os wn oc dr tm fa g)) := by
  simp (disch := first | exact q_two_i _ | exact q_two_r _ | exact q_two_n | exact q_sh0 | exact q_sh1 _ | exact q_sh2 _ _ | exact q_sh3 _ _ _ | exact q_sh4 _ _ _ _ | exact c_cl_0 .. | exact c_cl_1 .. | exact c_cl_2 .. | exact c_cl_3 .. | exact c_cl_4 .. | exact c_tc_4_4 _ | exact c_tc_4_5 _ | exact c_tc_3_3 _ | exact c_tc_2_4 _ | exact c_tc_2_5 _ | exact c_tc_1_3 _ | exact c_tc_1_4 _ | exact c_tc_0_4 _ | exact c_tc_0_5 _ | exact c_tc_0_6 _ | exact z_01 | exact z_11 | exact nz_24 | exact nz_16 | assumption | omega) only [eB4_open, x_aload_0, x_getf, c_gf_4_2, x_iv_0, x_kx1, x_kx0, x_istore_1, c_gf_4_0, x_iload_1, x_iv_1, x_iconst, x_ic_eq, x_ret_i, x_iv_2, x_istore_2, c_gf_4_1, x_lstore_3, x_lload_3, x_iload_2, x_iv_3, jB4_open_22, uB4_open_0, uB4_open_22, uB4_open_68, n_0, n_1, n_2, n_3, n_4, n_5, n_6, n_7, n_8, n_9, n_10, n_12, n_13, n_15, n_16, n_20, n_24, n_60, n_64, n_72, n_96, n_192, n_256, n_400, n_808, n_960, n_1440, n_2048, n_2720, n_16777215, n_1000000, l_0, l_1, l_8, l_20, l_60, l_lt_t, l_lt_f, l_ge_t, l_ge_f, l_eq_t, l_eq_f, lN_i, nI_l, i_lt_t, i_lt_f, i_le_t, i_le_f, i_eq_t, i_eq_f, ↓n_m1, ↓n_m2, i_m1, i_m1s, i_m1lt, i_m1le, i_m1l2, i_m1l3, i_mm, nI_add, pk_mul, i_sub, i_dec, i_dec0, i_s01, i_div, Nat.reduceAdd, Nat.reduceSub, Nat.reduceMul, Nat.zero_add, if_true, if_false, not_true, not_false_eq_true, ↓reduceIte, c_top, hsh1, c_kind, tk, c_part, hp, c_tAt, c_read, hc, c_boxAt, c_size, c_move, c_freeB, c_repl]
theorem s_open {e0 : Option am_E} {d c n m : Nat} {kn : Nat} {ks zs : Nat → Nat} {ps : Nat → Int32} {ce : Nat → Int64} {bt rt rl : Nat → Nat} {nb nr : Nat} {hsh hst : Nat → Nat} {ssh : Nat → Int32} {ih th : Nat} {wt : Nat → Nat} {os : Nat → Int64} {wn oc dr tm : Nat} {fa : Int32} {ko : Nat → Int32} {q1 q2 q3 cp : Nat} {so ki : Nat → Nat} {nu : Nat → Int64} {no sp : Nat} {hn sl ah : Nat → Nat} {isl inn atk : Nat} {g : Nat → Option am_E} {R : Nat → Fo} {fl : List Nat} (hI : ST c kn ks zs ps ce bt rt rl nb nr hsh hst ssh ih th oc ko q1 q2 q3 cp so ki nu no sp hn sl ah R fl) (hN : NQ n q1 q2 q3) (hg : g 0 = e0) (hB : n ≤ 28 + 3 * c ∧ m ≤ 20000 + 10260 * c)  : SS e0 (d + 600) 68 131 [] c (n, m, CO kn ks zs ps ce bt rt rl nb nr hsh hst ssh ih th wt os wn oc dr tm fa (RO kn ks zs ko q1 q2 q3 cp so ki nu no sp hn sl ah ih th os oc nb nr tm dr isl inn atk g)) := by
  obtain ⟨⟨hS, hk⟩, hK, hF, hT, hL, hC, hR, hO, hBd, ⟨hq, hq17⟩, hcp⟩ := id hI
  have hB1 : n ≤ 28 + 3 * (c + 1) ∧ m ≤ 20000 + 10260 * (c + 1) := ⟨by omega, by omega⟩
  obtain ⟨⟨f1, f2⟩, f3, f4, f5, f6, f7⟩ := id hF
  obtain ⟨b0, hb0⟩ : ∃ b0, hst (th - 1) = b0 := ⟨_, rfl⟩
  have hb3 : b0 ≤ ih := by rw [← hb0]; exact f6
  have ha0 : ah th = b0 := by rw [← hb0, ← f7 (th - 1) (by omega), Nat.sub_add_cancel f1]
  have hb4 : ah th ≤ ih := by rw [ha0]; exact hb3
  have f0 : 0 < th := f1
  have f13 : th < 13 := by omega
  by_cases hb1 : b0 = ih
  · subst hb1
    exact SS_mk (hoq := hq) (kn' := kn) (ks' := ks) (zs' := zs) (ps' := ps) (ce' := ce) (bt' := bt) (rt' := rt) (rl' := rl) (nb' := nb) (nr' := nr) (hsh' := hsh) (hst' := hst) (ssh' := ssh) (ih' := b0) (th' := th) (wt' := wt) (os' := os) (wn' := wn) (oc' := oc) (dr' := dr) (tm' := tm) (fa' := fa) (ko' := ko) (q1' := q1) (q2' := q2) (q3' := q3) (cp' := cp) (so' := so) (ki' := ki) (nu' := nu) (no' := no) (sp' := sp) (hn' := hn) (sl' := sl) (ah' := ah) (isl' := isl) (inn' := inn) (atk' := atk) (n' := n) (m' := m) hq17 hN hg (r := .int mI) (fun G => by simp (disch := first | exact q_two_i _ | exact q_two_r _ | exact q_two_n | exact q_sh0 | exact q_sh1 _ | exact q_sh2 _ _ | exact q_sh3 _ _ _ | exact q_sh4 _ _ _ _ | exact c_cl_0 .. | exact c_cl_1 .. | exact c_cl_2 .. | exact c_cl_3 .. | exact c_cl_4 .. | exact c_tc_4_4 _ | exact c_tc_4_5 _ | exact c_tc_3_3 _ | exact c_tc_2_4 _ | exact c_tc_2_5 _ | exact c_tc_1_3 _ | exact c_tc_1_4 _ | exact c_tc_0_4 _ | exact c_tc_0_5 _ | exact c_tc_0_6 _ | exact z_01 | exact z_11 | exact nz_24 | exact nz_16 | assumption | omega) only [eB4_open, x_aload_0, x_getf, c_gf_4_2, x_iv_0, x_kx1, x_kx0, x_istore_1, c_gf_4_0, x_iload_1, x_iv_1, x_iconst, x_ic_eq, x_ret_i, x_iv_2, x_istore_2, c_gf_4_1, x_lstore_3, x_lload_3, x_iload_2, x_iv_3, jB4_open_22, uB4_open_0, uB4_open_22, uB4_open_68, n_0, n_1, n_2, n_3, n_4, n_5, n_6, n_7, n_8, n_9, n_10, n_12, n_13, n_15, n_16, n_20, n_24, n_60, n_64, n_72, n_96, n_192, n_256, n_400, n_808, n_960, n_1440, n_2048, n_2720, n_16777215, n_1000000, l_0, l_1, l_8, l_20, l_60, l_lt_t, l_lt_f, l_ge_t, l_ge_f, l_eq_t, l_eq_f, lN_i, nI_l, i_lt_t, i_lt_f, i_le_t, i_le_f, i_eq_t, i_eq_f, ↓n_m1, ↓n_m2, i_m1, i_m1s, i_m1lt, i_m1le, i_m1l2, i_m1l3, i_mm, nI_add, pk_mul, i_sub, i_dec, i_dec0, i_s01, i_div, Nat.reduceAdd, Nat.reduceSub, Nat.reduceMul, Nat.zero_add, if_true, if_false, not_true, not_false_eq_true, ↓reduceIte, c_top0, c_kindM]) (fun G => ⟨G, by simp (disch := first | exact q_two_i _ | exact q_two_r _ | exact q_two_n | exact q_sh0 | exact q_sh1 _ | exact q_sh2 _ _ | exact q_sh3 _ _ _ | exact q_sh4 _ _ _ _ | exact c_cl_5 hq | exact c_tc_5_3 _ | exact c_tc_5_7 _ | exact c_tc_5_8 _ | exact c_tc_5_12 _ | exact c_tc_5_13 _ | exact c_tc_5_15 _ | exact c_tc_5_16 _ | exact c_tc_5_17 _ | exact c_tc_5_18 _ | exact c_tc_5_19 _ | exact c_tc_5_21 _ | exact c_tc_5_22 _ | exact c_tc_5_20a | exact c_tc_5_20b | exact z_01 | exact z_11 | exact nz_24 | exact nz_16 | assumption | omega) only [eB5_open, x_aload_0, x_iv_0, x_kx1, x_kx0, x_iconst, x_ic_lt, x_iv_1, x_ic_eq, x_ret_i, x_istore_1, x_getf, c_gf_5_9, c_gf_5_12, x_isub, c_gf_5_5, x_bipush, x_iload_1, x_imul, x_iaload, x_iastore, x_dup_int, x_dup_ref, c_gf_5_16, x_putf, c_pf_5_16, jB5_open_21, jB5_open_23, uB5_open_0, uB5_open_21, uB5_open_23, uB5_open_60, n_0, n_1, n_2, n_3, n_4, n_5, n_6, n_7, n_8, n_9, n_10, n_12, n_13, n_15, n_16, n_20, n_24, n_60, n_64, n_72, n_96, n_192, n_256, n_400, n_808, n_960, n_1440, n_2048, n_2720, n_16777215, n_1000000, l_0, l_1, l_8, l_20, l_60, l_lt_t, l_lt_f, l_ge_t, l_ge_f, l_eq_t, l_eq_f, lN_i, nI_l, i_lt_t, i_lt_f, i_le_t, i_le_f, i_eq_t, i_eq_f, ↓n_m1, ↓n_m2, i_m1, i_m1s, i_m1lt, i_m1le, i_m1l2, i_m1l3, i_mm, nI_add, pk_mul, i_sub, i_dec, i_dec0, i_s01, i_div, Nat.reduceAdd, Nat.reduceSub, Nat.reduceMul, Nat.zero_add, if_true, if_false, not_true, not_false_eq_true, ↓reduceIte, hq, m_mine, ha0, Nat.sub_self], fun _ _ _ _ _ => rfl⟩) ⟨R, fl, ST_mono hI⟩ hN hB1
  have hb5 : b0 < ih := by omega
  have hge : 1 ≤ ih := by omega
  obtain ⟨s1, x1, j1, v1, K1, a1, ⟨a2, a3⟩, ⟨a4, a5, a6⟩, a7, a8, a9, a10⟩ := h_top hI (r := ih - 1) (by omega)
  have e7 : hn (ih - 1 - 0) = x1 := by rw [Nat.sub_zero, a3]
  have e9 : so x1 < 24 := by omega
  have a72 := a7.2.2
  have a73 := hcp.1
  by_cases tk : ks s1 = 4
  rotate_left
  · have h5s := (hS.2 s1 a8).1
    exact SS_mk (hoq := hq) (kn' := kn) (ks' := ks) (zs' := zs) (ps' := ps) (ce' := ce) (bt' := bt) (rt' := rt) (rl' := rl) (nb' := nb) (nr' := nr) (hsh' := hsh) (hst' := hst) (ssh' := ssh) (ih' := ih) (th' := th) (wt' := wt) (os' := os) (wn' := wn) (oc' := oc) (dr' := dr) (tm' := tm) (fa' := fa) (ko' := ko) (q1' := q1) (q2' := q2) (q3' := q3) (cp' := cp) (so' := so) (ki' := ki) (nu' := nu) (no' := no) (sp' := sp) (hn' := hn) (sl' := sl) (ah' := ah) (isl' := isl) (inn' := inn) (atk' := atk) (n' := n) (m' := m) hq17 hN hg (r := .int mI) (fun G => by simp (disch := first | exact q_two_i _ | exact q_two_r _ | exact q_two_n | exact q_sh0 | exact q_sh1 _ | exact q_sh2 _ _ | exact q_sh3 _ _ _ | exact q_sh4 _ _ _ _ | exact c_cl_0 .. | exact c_cl_1 .. | exact c_cl_2 .. | exact c_cl_3 .. | exact c_cl_4 .. | exact c_tc_4_4 _ | exact c_tc_4_5 _ | exact c_tc_3_3 _ | exact c_tc_2_4 _ | exact c_tc_2_5 _ | exact c_tc_1_3 _ | exact c_tc_1_4 _ | exact c_tc_0_4 _ | exact c_tc_0_5 _ | exact c_tc_0_6 _ | exact z_01 | exact z_11 | exact nz_24 | exact nz_16 | assumption | omega) only [eB4_open, x_aload_0, x_getf, c_gf_4_2, x_iv_0, x_kx1, x_kx0, x_istore_1, c_gf_4_0, x_iload_1, x_iv_1, x_iconst, x_ic_eq, x_ret_i, x_iv_2, x_istore_2, c_gf_4_1, x_lstore_3, x_lload_3, x_iload_2, x_iv_3, jB4_open_22, uB4_open_0, uB4_open_22, uB4_open_68, n_0, n_1, n_2, n_3, n_4, n_5, n_6, n_7, n_8, n_9, n_10, n_12, n_13, n_15, n_16, n_20, n_24, n_60, n_64, n_72, n_96, n_192, n_256, n_400, n_808, n_960, n_1440, n_2048, n_2720, n_16777215, n_1000000, l_0, l_1, l_8, l_20, l_60, l_lt_t, l_lt_f, l_ge_t, l_ge_f, l_eq_t, l_eq_f, lN_i, nI_l, i_lt_t, i_lt_f, i_le_t, i_le_f, i_eq_t, i_eq_f, ↓n_m1, ↓n_m2, i_m1, i_m1s, i_m1lt, i_m1le, i_m1l2, i_m1l3, i_mm, nI_add, pk_mul, i_sub, i_dec, i_dec0, i_s01, i_div, Nat.reduceAdd, Nat.reduceSub, Nat.reduceMul, Nat.zero_add, if_true, if_false, not_true, not_false_eq_true, ↓reduceIte, c_top, a2, c_kind, tk]) (fun G => ⟨G, by simp (disch := first | exact q_two_i _ | exact q_two_r _ | exact q_two_n | exact q_sh0 | exact q_sh1 _ | exact q_sh2 _ _ | exact q_sh3 _ _ _ | exact q_sh4 _ _ _ _ | exact c_cl_5 hq | exact c_tc_5_3 _ | exact c_tc_5_7 _ | exact c_tc_5_8 _ | exact c_tc_5_12 _ | exact c_tc_5_13 _ | exact c_tc_5_15 _ | exact c_tc_5_16 _ | exact c_tc_5_17 _ | exact c_tc_5_18 _ | exact c_tc_5_19 _ | exact c_tc_5_21 _ | exact c_tc_5_22 _ | exact c_tc_5_20a | exact c_tc_5_20b | exact z_01 | exact z_11 | exact nz_24 | exact nz_16 | assumption | omega) only [eB5_open, x_aload_0, x_iv_0, x_kx1, x_kx0, x_iconst, x_ic_lt, x_iv_1, x_ic_eq, x_ret_i, x_istore_1, x_getf, c_gf_5_9, c_gf_5_12, x_isub, c_gf_5_5, x_bipush, x_iload_1, x_imul, x_iaload, x_iastore, x_dup_int, x_dup_ref, c_gf_5_16, x_putf, c_pf_5_16, jB5_open_21, jB5_open_23, uB5_open_0, uB5_open_21, uB5_open_23, uB5_open_60, n_0, n_1, n_2, n_3, n_4, n_5, n_6, n_7, n_8, n_9, n_10, n_12, n_13, n_15, n_16, n_20, n_24, n_60, n_64, n_72, n_96, n_192, n_256, n_400, n_808, n_960, n_1440, n_2048, n_2720, n_16777215, n_1000000, l_0, l_1, l_8, l_20, l_60, l_lt_t, l_lt_f, l_ge_t, l_ge_f, l_eq_t, l_eq_f, lN_i, nI_l, i_lt_t, i_lt_f, i_le_t, i_le_f, i_eq_t, i_eq_f, ↓n_m1, ↓n_m2, i_m1, i_m1s, i_m1lt, i_m1le, i_m1l2, i_m1l3, i_mm, nI_add, pk_mul, i_sub, i_dec, i_dec0, i_s01, i_div, Nat.reduceAdd, Nat.reduceSub, Nat.reduceMul, Nat.zero_add, if_true, if_false, not_true, not_false_eq_true, ↓reduceIte, hq, m_mine, ha0, m_top, e7, m_kind, a4], fun _ _ _ _ _ => rfl⟩) ⟨R, fl, ST_mono hI⟩ hN hB1
  have hCb := hC.1 (ih - 1) (by omega)
  rw [a1] at hCb
  obtain ⟨c1, c2, c3⟩ := hCb.1.2.2.2.1 tk
  simp only at c1 c2
  rw [Nat.mul_comm] at c1
  obtain ⟨t1, t2⟩ : f_len K1 = 1 ∧ ps (s1 * 3 + 0) = nI (f_sh K1 0) := by
    rcases a9 with q | q | q | q | q
    · omega
    · omega
    · omega
    · exact q.2
    · omega
  obtain ⟨p, hp⟩ : ∃ p, f_sh K1 0 = p := ⟨_, rfl⟩
  rw [hp] at t2
  have hp2 : p < kn := by
    obtain ⟨s2, k2, v2, K2, rfl⟩ := f_one t1
    rw [← hp]; exact a10.1
  have hz8 : zs p ≤ 8 := (hS.2 p hp2).2.2.1
  have hbj := hC.2.1 j1
  have hbj2 := rF_ge (f_cb ks 4 j1) R (show ih - 1 < 120 by omega)
  rw [a1] at hbj2
  simp only [f_cb, tk, true_and, if_true] at hbj2
  have hbt : bt j1 = 1 := by omega
  have hnb2 := rF_ge (f_nk ks 4) R (show ih - 1 < 120 by omega)
  rw [a1] at hnb2
  simp only [f_nk, tk, if_true] at hnb2
  have hnb : 0 < nb := by have := hC.2.2.2.1; omega
  have hST := ST_unw hI (ce2 := va_cpy ce ce (960 + j1 * 8) ((ih - 1) * 8) (zs p)) (bt2 := upN bt j1 0) (rt2 := rt) (nb2 := nb - 1) (nr2 := nr) (hsh2 := upN hsh (ih - 1) p) (hn2 := upN hn (ih - 1) (f_rt K1 0)) (by omega) a1 (by omega) (fun q hq' => by rw [mvc, if_neg (by omega)]) (fun i hi t ht => by
      obtain rfl : i = 0 := by omega
      rw [hp] at ht
      obtain ⟨s2, k2, v2, K2, rfl⟩ := f_one t1
      simp only [f_of, f_ka, tk, if_true, Nat.reduceEqDiff, if_false]
      rw [mvc, if_pos (by omega)]
      congr 1; omega) (fun z => by
      by_cases e : z = j1
      · subst e; rw [upN_s, if_pos ⟨tk, rfl⟩]; omega
      · rw [upN_n _ _ e, if_neg (fun q => e q.2.symm)]; omega) (fun z => by simp [tk]) (by simp only [tk, if_true]; omega) (by simp [tk]) (fun r hr => ⟨upN_n _ _ (by omega), upN_n _ _ (by omega)⟩) (fun i hi => by
      obtain rfl : i = 0 := by omega
      rw [Nat.add_zero, upN_s, upN_s, hp]; exact ⟨rfl, rfl⟩)
  rw [t1, top_b hge] at hST
  have e10 : ki (8 * x1) = f_rt K1 0 := a6 0 (by omega)
  have hnb60 := hBd.2.1
  have e11 : nI nb - nI 1 = nI (nb - 1) := i_sub (by omega)
  have h3q : q2 ≠ 0 := by omega
  have e1 := fun (G : Nat → Option am_E) (D : Nat) => c_op (kn := kn) (ks := ks) (zs := zs) (ps := ps) (ce := ce) (bt := bt) (rt := rt) (rl := rl) (nb := nb) (nr := nr) (hsh := hsh) (hst := hst) (ssh := ssh) (ih := ih) (th := th) (wt := wt) (os := os) (wn := wn) (oc := oc) (dr := dr) (tm := tm) (fa := fa) (g := G) (n := n) (m := m) (d := D) s1 p b0 j1 hk a2 a8 tk t2 hp2 f0 f2 hb0 hb5 f3 c2 c1 hbt hz8 hnb hnb60
  exact SS_mk (hoq := hq) (kn' := kn) (ks' := ks) (zs' := zs) (ps' := ps) (ce' := va_cpy ce ce (960 + j1 * 8) ((ih - 1) * 8) (zs p)) (bt' := upN bt j1 0) (rt' := rt) (rl' := rl) (nb' := nb - 1) (nr' := nr) (hsh' := upN hsh (ih - 1) p) (hst' := hst) (ssh' := ssh) (ih' := ih) (th' := th) (wt' := wt) (os' := os) (wn' := wn) (oc' := oc) (dr' := dr) (tm' := tm) (fa' := fa) (ko' := ko) (q1' := q1) (q2' := q2) (q3' := q3) (cp' := cp) (so' := so) (ki' := upN ki (8 * x1) sp) (nu' := nu) (no' := no) (sp' := x1) (hn' := upN hn (ih - 1) (f_rt K1 0)) (sl' := sl) (ah' := ah) (isl' := isl) (inn' := inn) (atk' := atk) (n' := n) (m' := m) hq17 hN hg (r := .int (nI 1)) (fun G => e1 G (d + 596)) (fun G => ⟨G, by simp (disch := first | exact q_two_i _ | exact q_two_r _ | exact q_two_n | exact q_sh0 | exact q_sh1 _ | exact q_sh2 _ _ | exact q_sh3 _ _ _ | exact q_sh4 _ _ _ _ | exact c_cl_5 hq | exact c_tc_5_3 _ | exact c_tc_5_7 _ | exact c_tc_5_8 _ | exact c_tc_5_12 _ | exact c_tc_5_13 _ | exact c_tc_5_15 _ | exact c_tc_5_16 _ | exact c_tc_5_17 _ | exact c_tc_5_18 _ | exact c_tc_5_19 _ | exact c_tc_5_21 _ | exact c_tc_5_22 _ | exact c_tc_5_20a | exact c_tc_5_20b | exact z_01 | exact z_11 | exact nz_24 | exact nz_16 | assumption | omega) only [eB5_open, x_aload_0, x_iv_0, x_kx1, x_kx0, x_iconst, x_ic_lt, x_iv_1, x_ic_eq, x_ret_i, x_istore_1, x_getf, c_gf_5_9, c_gf_5_12, x_isub, c_gf_5_5, x_bipush, x_iload_1, x_imul, x_iaload, x_iastore, x_dup_int, x_dup_ref, c_gf_5_16, x_putf, c_pf_5_16, jB5_open_21, jB5_open_23, uB5_open_0, uB5_open_21, uB5_open_23, uB5_open_60, n_0, n_1, n_2, n_3, n_4, n_5, n_6, n_7, n_8, n_9, n_10, n_12, n_13, n_15, n_16, n_20, n_24, n_60, n_64, n_72, n_96, n_192, n_256, n_400, n_808, n_960, n_1440, n_2048, n_2720, n_16777215, n_1000000, l_0, l_1, l_8, l_20, l_60, l_lt_t, l_lt_f, l_ge_t, l_ge_f, l_eq_t, l_eq_f, lN_i, nI_l, i_lt_t, i_lt_f, i_le_t, i_le_f, i_eq_t, i_eq_f, ↓n_m1, ↓n_m2, i_m1, i_m1s, i_m1lt, i_m1le, i_m1l2, i_m1l3, i_mm, nI_add, pk_mul, i_sub, i_dec, i_dec0, i_s01, i_div, Nat.reduceAdd, Nat.reduceSub, Nat.reduceMul, Nat.zero_add, if_true, if_false, not_true, not_false_eq_true, ↓reduceIte, hq, m_mine, ha0, m_top, e7, m_kind, a4, tk, c_g_q2, e10, c_p_25, m_free], fun _ _ _ _ _ => rfl⟩) ⟨_, x1 :: fl, hST⟩ hN hB1
