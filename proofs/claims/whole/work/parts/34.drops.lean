/-! The class's drop of whole values: the loop over the pile. -/
abbrev Sg : Type := Fo × Nat × Bool
def sS (f : Fo → Nat) : List Sg → Nat
  | [] => 0
  | q :: r => f q.1 + sS f r
def sM : List Sg → Nat
  | [] => 0
  | q :: r => 2 * f_sz q.1 + 1 + sM r
def p_all (zs : Nat → Nat) : List Sg → List Nat
  | [] => []
  | q :: r => p_ents zs q.1 q.2.1 q.2.2 ++ p_all zs r
def sT (ks : Nat → Nat) : List Sg → List Int64
  | [] => []
  | q :: r => f_tl ks q.1 ++ sT ks r
def outp (os : Nat → Int64) (oc : Nat) : List Int64 → (Nat → Int64) × Nat
  | [] => (os, oc)
  | v :: l => outp (o1 os oc v) (n1 oc) l
theorem outp_app (l2 : List Int64) : ∀ (l1 : List Int64) (os : Nat → Int64) (oc : Nat), outp os oc (l1 ++ l2) = outp (outp os oc l1).1 (outp os oc l1).2 l2
  | [], _, _ => rfl
  | v :: l, os, oc => outp_app l2 l (o1 os oc v) (n1 oc)
theorem n1_le {oc : Nat} (h : oc ≤ 400) : n1 oc ≤ 400 := by unfold n1; split <;> omega
theorem p_len {zs : Nat → Nat} : ∀ (F : Fo) (a : Nat) (w : Bool), (p_ents zs F a w).length = f_len F
  | .leaf, _, _ => rfl
  | .inner s k v K N, a, w => by simp [p_ents, f_len, p_len N]
theorem f_len_sz : ∀ F : Fo, f_len F ≤ f_sz F
  | .leaf => Nat.le_refl _
  | .inner s k v K N => by have := f_len_sz N; simp only [f_len, f_sz]; omega
theorem p_all_len {zs : Nat → Nat} : ∀ S : List Sg, (p_all zs S).length ≤ sS f_sz S
  | [] => Nat.le_refl _
  | q :: r => by
    have h1 := f_len_sz q.1
    have h2 := p_all_len (zs := zs) r
    simp only [p_all, sS, List.length_append, p_len]
    omega
/-- a segment lies well -/
def sOk (kn : Nat) (ks zs : Nat → Nat) (ps : Nat → Int32) (ce : Nat → Int64) (rl : Nat → Nat) (q : Sg) : Prop := f_okT kn ks ps q.1 ∧ f_okC ks zs ce rl q.1 q.2.1 q.2.2 ∧ q.2.1 + f_ext zs q.1 q.2.2 ≤ 2720
theorem f_extT (zs : Nat → Nat) : ∀ K : Fo, f_ext zs K true = 8 * f_len K
  | .leaf => rfl
  | .inner s k v K N => by simp only [f_ext, f_len, if_true, f_extT zs N]; omega
/-- the kids' cells in line -/
theorem f_kids {kn : Nat} {ks zs : Nat → Nat} {ps : Nat → Int32} {s : Nat} {v : Int64} {K : Fo} (hS : s_ok kn ks zs ps) (hk : kn ≤ 24) (hs : s < kn) (hT : f_ty ks ps s v K) (hTK : f_okT kn ks ps K) :
    (ks s = 1 ∨ ks s = 2 → f_ext zs K false = zs s) ∧ (ks s = 3 → f_ext zs K false + 1 ≤ zs s) ∧ (ks s = 4 → f_ext zs K false ≤ 8) ∧ (ks s = 5 → f_ext zs K true ≤ 64) := by
  obtain ⟨hs1, hs2, hs3, hs4, hs5, hs6, hs7, hs8, hs9⟩ := hS.2 s hs
  have big : ∀ p, p < kn → p < 2 ^ 31 := fun p h => by omega
  rcases hT with ⟨h, rfl⟩ | ⟨h, hl, hp⟩ | ⟨h, t, ht, hv, hcase⟩ | ⟨h, hl, hp⟩ | ⟨h, hv, hl, hp⟩
  · refine ⟨fun q => ?_, fun q => ?_, fun q => ?_, fun q => ?_⟩ <;> omega
  · refine ⟨fun _ => ?_, fun q => ?_, fun q => ?_, fun q => ?_⟩
    · obtain ⟨-, h12, hz, hlt⟩ := hs6 h
      unfold s_np at hl
      split at hl
      · rename_i h1
        obtain ⟨p0, k0, v0, K0, N0, rfl, hN⟩ := f_lenS hl
        obtain rfl := f_len0 hN
        have e0 := hp 0 (by rw [hl]; decide)
        have l0 := f_sh_lt hTK 0 (by rw [hl]; decide)
        simp only [f_sh] at e0 l0
        rw [s_zp_n e0 (big _ l0), s_zp_m h1, s_zp_m (h12 h1)] at hz
        simp only [f_ext, Bool.false_eq_true, if_false]; omega
      · rename_i h1
        split at hl
        · rename_i h2
          obtain ⟨p0, k0, v0, K0, N0, rfl, hN⟩ := f_lenS hl
          obtain ⟨p1, k1, v1, K1, N1, rfl, hN1⟩ := f_lenS hN
          obtain rfl := f_len0 hN1
          have e0 := hp 0 (by rw [hl]; decide)
          have e1 := hp 1 (by rw [hl]; decide)
          have l0 := f_sh_lt hTK 0 (by rw [hl]; decide)
          have l1 := f_sh_lt hTK 1 (by rw [hl]; decide)
          simp only [f_sh] at e0 l0 e1 l1
          rw [s_zp_n e0 (big _ l0), s_zp_n e1 (big _ l1), s_zp_m h2] at hz
          simp only [f_ext, Bool.false_eq_true, if_false]; omega
        · rename_i h2
          obtain ⟨p0, k0, v0, K0, N0, rfl, hN⟩ := f_lenS hl
          obtain ⟨p1, k1, v1, K1, N1, rfl, hN1⟩ := f_lenS hN
          obtain ⟨p2, k2, v2, K2, N2, rfl, hN2⟩ := f_lenS hN1
          obtain rfl := f_len0 hN2
          have e0 := hp 0 (by rw [hl]; decide)
          have e1 := hp 1 (by rw [hl]; decide)
          have e2 := hp 2 (by rw [hl]; decide)
          have l0 := f_sh_lt hTK 0 (by rw [hl]; decide)
          have l1 := f_sh_lt hTK 1 (by rw [hl]; decide)
          have l2 := f_sh_lt hTK 2 (by rw [hl]; decide)
          simp only [f_sh] at e0 l0 e1 l1 e2 l2
          rw [s_zp_n e0 (big _ l0), s_zp_n e1 (big _ l1), s_zp_n e2 (big _ l2)] at hz
          simp only [f_ext, Bool.false_eq_true, if_false]; omega
    all_goals omega
  · refine ⟨fun q => ?_, fun q => ?_, fun q => ?_, fun q => ?_⟩
    · omega
    · rcases hcase with ⟨hm, rfl⟩ | ⟨hl, hp⟩
      · simp only [f_ext]; omega
      · obtain ⟨p0, k0, v0, K0, N0, rfl, hN⟩ := f_lenS hl
        obtain rfl := f_len0 hN
        simp only [f_sh] at hp
        have l0 := f_sh_lt hTK 0 (by simp only [f_len]; omega)
        simp only [f_sh] at l0
        have hz := (hs8 h t p0 ht l0 hp).1
        simp only [f_ext, Bool.false_eq_true, if_false]; omega
    all_goals omega
  · refine ⟨fun q => ?_, fun q => ?_, fun q => ?_, fun q => ?_⟩
    · omega
    · omega
    · obtain ⟨p0, k0, v0, K0, N0, rfl, hN⟩ := f_lenS hl
      obtain rfl := f_len0 hN
      have l0 := f_sh_lt hTK 0 (by rw [hl]; decide)
      simp only [f_sh] at l0
      have hz := (hS.2 p0 l0).2.2.1
      simp only [f_ext, Bool.false_eq_true, if_false]; omega
    · omega
  · refine ⟨fun q => ?_, fun q => ?_, fun q => ?_, fun q => ?_⟩
    · omega
    · omega
    · omega
    · rw [f_extT]; omega
/-- a first tree's kids and the rest lie well -/
theorem sOk_in {kn : Nat} {ks zs : Nat → Nat} {ps : Nat → Int32} {ce : Nat → Int64} {rl : Nat → Nat} {s a : Nat} {k : Nat × Nat} {v : Int64} {K N : Fo} {w : Bool} (hS : s_ok kn ks zs ps) (hk : kn ≤ 24) (h : sOk kn ks zs ps ce rl (.inner s k v K N, a, w)) :
    a + zs s ≤ 2720 ∧ sOk kn ks zs ps ce rl (K, f_ka ks s k.2 a, f_kw ks s) ∧ sOk kn ks zs ps ce rl (N, a + (if w then 8 else zs s), w) := by
  obtain ⟨⟨t1, t2, t3, t4⟩, ⟨⟨c0, c1, c3, c4, c5⟩, cN⟩, he⟩ := h
  obtain ⟨hs1, hs2, hs3, -⟩ := hS.2 s t1
  obtain ⟨k1, k3, k4, k5⟩ := f_kids hS hk t1 t2 t3
  simp only [f_ext] at he
  have hstep : zs s ≤ (if w then 8 else zs s) := by split <;> omega
  refine ⟨by omega, ⟨t3, ?_, ?_⟩, t4, cN, by dsimp only; omega⟩
  · dsimp only [f_ka, f_kw]
    rcases t2 with ⟨h, rfl⟩ | ⟨h, -, -⟩ | ⟨h, -⟩ | ⟨h, -, -⟩ | ⟨h, -⟩
    · trivial
    · have : ¬ ks s = 3 ∧ ¬ ks s = 4 ∧ ¬ ks s = 5 := by omega
      simp only [this.1, this.2.1, this.2.2, if_false, decide_false]
      exact c1 h
    · simp only [h, if_true]; exact (c3 h).2
    · simp only [h, reduceIte, Nat.reduceEqDiff]; exact (c4 h).2.2
    · simp only [h, reduceIte, Nat.reduceEqDiff]; exact (c5 h).2.2.2
  · dsimp only [f_ka, f_kw]
    rcases t2 with ⟨h, rfl⟩ | ⟨h, -, -⟩ | ⟨h, -⟩ | ⟨h, -, -⟩ | ⟨h, -⟩
    · simp only [h, reduceIte, Nat.reduceEqDiff, f_ext]; omega
    · have : ¬ ks s = 3 ∧ ¬ ks s = 4 ∧ ¬ ks s = 5 := by omega
      simp only [this.1, this.2.1, this.2.2, if_false, decide_false]
      have := k1 h
      omega
    · have := k3 h
      simp only [h, reduceIte, Nat.reduceEqDiff]; simp only [decide_false]; omega
    · have := k4 h
      have := (c4 h).2.1
      simp only [h, reduceIte, Nat.reduceEqDiff]; simp only [decide_false]; omega
    · have := k5 h
      have := (c5 h).2.1
      simp only [h, reduceIte, Nat.reduceEqDiff]; simp only [decide_true]; omega
theorem c_loop {kn : Nat} {ks zs : Nat → Nat} {ps : Nat → Int32} {ce : Nat → Int64} {rl hsh hst : Nat → Nat} {ssh : Nat → Int32} {ih th tm : Nat} {fa : Int32} {g : Nat → Option am_E} {n m d : Nat} {x1 x2 : Int32} (hS : s_ok kn ks zs ps) (hk : kn ≤ 24) : ∀ (M : Nat) (S : List Sg) (bt rt : Nat → Nat) (nb nr : Nat) (wt : Nat → Nat) (os : Nat → Int64) (wn oc dr i : Nat), sM S ≤ M → (∀ q ∈ S, sOk kn ks zs ps ce rl q) → pw wt (p_all zs S) → wn = (p_all zs S).length → sS f_sz S ≤ 512 → i + sS f_sz S < 1000000 → (∀ j, sS (f_cb ks 4 j) S ≤ bt j ∧ bt j ≤ 1) → (∀ j, sS (f_cb ks 5 j) S ≤ rt j ∧ rt j ≤ 1) → sS (f_nk ks 4) S ≤ nb → nb ≤ 60 → sS (f_nk ks 5) S ≤ nr → nr ≤ 20 → oc ≤ 400 →
    ∃ wt', am_X (ev (d + 5)) B0_dropValue_0 (B0_dropValue_13, [some (.ref 15), some (.int x1), some (.int x2), some (.int (nI i))], [], (n, m, CO kn ks zs ps ce bt rt rl nb nr hsh hst ssh ih th wt os wn oc dr tm fa g)) = some (none, (n, m, CO kn ks zs ps ce (fun j => bt j - sS (f_cb ks 4 j) S) (fun j => rt j - sS (f_cb ks 5 j) S) rl (nb - sS (f_nk ks 4) S) (nr - sS (f_nk ks 5) S) hsh hst ssh ih th (wt') ((outp os oc (sT ks S)).1) (0) ((outp os oc (sT ks S)).2) (dr + sS (f_nk ks 2) S) tm fa g)) := by
  intro M
  induction M with
  | zero =>
    intro S bt rt nb nr wt os wn oc dr i hM hok hpw hwn h512 hi hb hr hnb hnb2 hnr hnr2 ho
    cases S with
    | cons q r => simp only [sM] at hM; omega
    | nil =>
      refine ⟨wt, ?_⟩
      simp only [p_all, List.length_nil] at hwn
      subst hwn
      rw [uB0_dropValue_13]
      simp (disch := first | exact q_two_i _ | exact q_two_r _ | exact q_two_n | exact q_sh0 | exact q_sh1 _ | exact q_sh2 _ _ | exact q_sh3 _ _ _ | exact q_sh4 _ _ _ _ | exact c_cl_0 .. | exact c_cl_1 .. | exact c_cl_2 .. | exact c_cl_3 .. | exact c_cl_4 .. | exact c_tc_4_4 _ | exact c_tc_4_5 _ | exact c_tc_3_3 _ | exact c_tc_2_4 _ | exact c_tc_2_5 _ | exact c_tc_1_3 _ | exact c_tc_1_4 _ | exact c_tc_0_4 _ | exact c_tc_0_5 _ | exact c_tc_0_6 _ | exact z_01 | exact z_11 | exact nz_24 | exact nz_16 | assumption | omega) only [x_aload_0, x_iconst, x_putf, c_pf_0_4, x_iload_1, x_iload_2, x_iv_2, x_kx1, x_kx0, x_istore_3, x_getf, c_gf_0_4, x_if_le, x_iload_3, x_ldc, x_ic_ge, x_dup_int, x_dup_ref, x_isub, c_gf_0_2, x_iaload, x_bipush, x_irem, x_idiv, x_iinc_3, x_goto, x_ret_v, jB0_dropValue_13, jB0_dropValue_70, uB0_dropValue_57, uB0_dropValue_70, n_0, n_1, n_2, n_3, n_4, n_5, n_6, n_7, n_8, n_9, n_10, n_12, n_13, n_15, n_16, n_20, n_24, n_60, n_64, n_72, n_96, n_192, n_256, n_400, n_808, n_960, n_1440, n_2048, n_2720, n_16777215, n_1000000, l_0, l_1, l_8, l_20, l_60, l_lt_t, l_lt_f, l_ge_t, l_ge_f, l_eq_t, l_eq_f, lN_i, nI_l, i_lt_t, i_lt_f, i_le_t, i_le_f, i_eq_t, i_eq_f, ↓n_m1, ↓n_m2, i_m1, i_m1s, i_m1lt, i_m1le, i_m1l2, i_m1l3, i_mm, nI_add, pk_mul, i_sub, i_dec, i_dec0, i_s01, i_div, Nat.reduceAdd, Nat.reduceSub, Nat.reduceMul, Nat.zero_add, if_true, if_false, not_true, not_false_eq_true, sS, sT, outp, Nat.sub_zero, Nat.add_zero]
  | succ M ih' =>
    intro S bt rt nb nr wt os wn oc dr i hM hok hpw hwn h512 hi hb hr hnb hnb2 hnr hnr2 ho
    cases S with
    | nil =>
      refine ⟨wt, ?_⟩
      simp only [p_all, List.length_nil] at hwn
      subst hwn
      rw [uB0_dropValue_13]
      simp (disch := first | exact q_two_i _ | exact q_two_r _ | exact q_two_n | exact q_sh0 | exact q_sh1 _ | exact q_sh2 _ _ | exact q_sh3 _ _ _ | exact q_sh4 _ _ _ _ | exact c_cl_0 .. | exact c_cl_1 .. | exact c_cl_2 .. | exact c_cl_3 .. | exact c_cl_4 .. | exact c_tc_4_4 _ | exact c_tc_4_5 _ | exact c_tc_3_3 _ | exact c_tc_2_4 _ | exact c_tc_2_5 _ | exact c_tc_1_3 _ | exact c_tc_1_4 _ | exact c_tc_0_4 _ | exact c_tc_0_5 _ | exact c_tc_0_6 _ | exact z_01 | exact z_11 | exact nz_24 | exact nz_16 | assumption | omega) only [x_aload_0, x_iconst, x_putf, c_pf_0_4, x_iload_1, x_iload_2, x_iv_2, x_kx1, x_kx0, x_istore_3, x_getf, c_gf_0_4, x_if_le, x_iload_3, x_ldc, x_ic_ge, x_dup_int, x_dup_ref, x_isub, c_gf_0_2, x_iaload, x_bipush, x_irem, x_idiv, x_iinc_3, x_goto, x_ret_v, jB0_dropValue_13, jB0_dropValue_70, uB0_dropValue_57, uB0_dropValue_70, n_0, n_1, n_2, n_3, n_4, n_5, n_6, n_7, n_8, n_9, n_10, n_12, n_13, n_15, n_16, n_20, n_24, n_60, n_64, n_72, n_96, n_192, n_256, n_400, n_808, n_960, n_1440, n_2048, n_2720, n_16777215, n_1000000, l_0, l_1, l_8, l_20, l_60, l_lt_t, l_lt_f, l_ge_t, l_ge_f, l_eq_t, l_eq_f, lN_i, nI_l, i_lt_t, i_lt_f, i_le_t, i_le_f, i_eq_t, i_eq_f, ↓n_m1, ↓n_m2, i_m1, i_m1s, i_m1lt, i_m1le, i_m1l2, i_m1l3, i_mm, nI_add, pk_mul, i_sub, i_dec, i_dec0, i_s01, i_div, Nat.reduceAdd, Nat.reduceSub, Nat.reduceMul, Nat.zero_add, if_true, if_false, not_true, not_false_eq_true, sS, sT, outp, Nat.sub_zero, Nat.add_zero]
    | cons q r =>
      obtain ⟨F, a, w⟩ := q
      cases F with
      | leaf =>
        simp only [sM, f_sz] at hM
        obtain ⟨wt', e⟩ := ih' r bt rt nb nr wt os wn oc dr i (by omega) (fun q hq => hok q (List.mem_cons_of_mem _ hq)) (by simpa [p_all, p_ents] using hpw) (by simpa [p_all, p_ents] using hwn) (by simpa [sS, f_sz] using h512) (by simpa [sS, f_sz] using hi) (by simpa [sS, f_cb] using hb) (by simpa [sS, f_cb] using hr) (by simpa [sS, f_nk] using hnb) hnb2 (by simpa [sS, f_nk] using hnr) hnr2 ho
        refine ⟨wt', ?_⟩
        simp only [sS, f_cb, f_nk, sT, f_tl, Nat.zero_add, List.nil_append]
        exact e
      | inner s k v K N =>
        have hq := hok _ List.mem_cons_self
        obtain ⟨haz, hokK, hokN⟩ := sOk_in hS hk hq
        obtain ⟨⟨t1, t2, t3, t4⟩, ⟨hC, cN⟩, he⟩ := hq
        simp only [sM, f_sz, sS] at hM h512 hi
        simp only [p_all, p_ents, List.cons_append] at hpw hwn
        obtain ⟨hw0, hpw⟩ := hpw
        have hlen := p_all_len (zs := zs) r
        have hlN := f_len_sz N
        have hlK := f_len_sz K
        generalize hL : p_ents zs N (a + if w then 8 else zs s) w ++ p_all zs r = L at hpw hwn hw0
        have hLl : L.length ≤ f_sz N + sS f_sz r := by rw [← hL, List.length_append, p_len]; omega
        rw [List.length_cons] at hwn
        subst hwn
        have hb1 : ks s = 4 → bt k.2 = 1 ∧ 0 < nb ∧ nb ≤ 60 := fun h => by
          have h1 := hb k.2
          simp only [sS, f_cb, h, true_and, if_true] at h1
          simp only [sS, f_nk, h, if_true] at hnb
          omega
        have hr1 : ks s = 5 → rt k.2 = 1 ∧ 0 < nr ∧ nr ≤ 20 := fun h => by
          have h1 := hr k.2
          simp only [sS, f_cb, h, true_and, if_true] at h1
          simp only [sS, f_nk, h, if_true] at hnr
          omega
        obtain ⟨wt1, e1, e2⟩ := c_node (kn := kn) (ks := ks) (zs := zs) (ps := ps) (ce := ce) (bt := bt) (rt := rt) (rl := rl) (nb := nb) (nr := nr) (hsh := hsh) (hst := hst) (ssh := ssh) (ih := ih) (th := th) (wt := wt) (os := os) (wn := L.length) (oc := oc) (dr := dr) (tm := tm) (fa := fa) (g := g) (n := n) (m := m) (d := d) (k := k) hS hk t1 t2 t3 haz hC hpw rfl (by omega) hb1 hr1 ho
        obtain ⟨wt', e3⟩ := ih' ((K, f_ka ks s k.2 a, f_kw ks s) :: (N, a + (if w then 8 else zs s), w) :: r) (if ks s = 4 then upN bt k.2 0 else bt) (if ks s = 5 then upN rt k.2 0 else rt) (if ks s = 4 then nb - 1 else nb) (if ks s = 5 then nr - 1 else nr) wt1 (if ks s = 2 then o1 os oc (f_v K) else os) (L.length + f_len K) (if ks s = 2 then n1 oc else oc) (if ks s = 2 then dr + 1 else dr) (i + 1)
          (by simp only [sM]; omega)
          (by
            intro q hq
            simp only [List.mem_cons] at hq
            rcases hq with rfl | rfl | hq
            · exact hokK
            · exact hokN
            · exact hok q (List.mem_cons_of_mem _ hq))
          (by simp only [p_all, hL]; exact e2)
          (by simp only [p_all, hL, List.length_append, p_len]; omega)
          (by simp only [sS]; omega)
          (by simp only [sS]; omega)
          (by
            intro j
            have h1 := hb j
            simp only [sS, f_cb] at h1 ⊢
            by_cases h4 : ks s = 4
            · by_cases hj : j = k.2
              · subst hj
                simp only [h4, true_and, if_true, upN_s] at h1 ⊢
                omega
              · simp only [h4, true_and, if_true, upN_n _ _ hj] at h1 ⊢
                omega
            · simp only [h4, false_and, if_false] at h1 ⊢
              omega)
          (by
            intro j
            have h1 := hr j
            simp only [sS, f_cb] at h1 ⊢
            by_cases h4 : ks s = 5
            · by_cases hj : j = k.2
              · subst hj
                simp only [h4, true_and, if_true, upN_s] at h1 ⊢
                omega
              · simp only [h4, true_and, if_true, upN_n _ _ hj] at h1 ⊢
                omega
            · simp only [h4, false_and, if_false] at h1 ⊢
              omega)
          (by simp only [sS, f_nk] at hnb ⊢; split at hnb <;> simp_all <;> omega)
          (by split <;> omega)
          (by simp only [sS, f_nk] at hnr ⊢; split at hnr <;> simp_all <;> omega)
          (by split <;> omega)
          (by split; exact n1_le ho; exact ho)
        refine ⟨wt', ?_⟩
        have hs24 : s < 24 := by omega
        have d1 : (a * 24 + s) / 24 = a := by omega
        have d2 : a * 24 + s - a * 24 = s := by omega
        rw [uB0_dropValue_13]
        simp (disch := first | exact q_two_i _ | exact q_two_r _ | exact q_two_n | exact q_sh0 | exact q_sh1 _ | exact q_sh2 _ _ | exact q_sh3 _ _ _ | exact q_sh4 _ _ _ _ | exact c_cl_0 .. | exact c_cl_1 .. | exact c_cl_2 .. | exact c_cl_3 .. | exact c_cl_4 .. | exact c_tc_4_4 _ | exact c_tc_4_5 _ | exact c_tc_3_3 _ | exact c_tc_2_4 _ | exact c_tc_2_5 _ | exact c_tc_1_3 _ | exact c_tc_1_4 _ | exact c_tc_0_4 _ | exact c_tc_0_5 _ | exact c_tc_0_6 _ | exact z_01 | exact z_11 | exact nz_24 | exact nz_16 | assumption | omega) only [x_aload_0, x_iconst, x_putf, c_pf_0_4, x_iload_1, x_iload_2, x_iv_2, x_kx1, x_kx0, x_istore_3, x_getf, c_gf_0_4, x_if_le, x_iload_3, x_ldc, x_ic_ge, x_dup_int, x_dup_ref, x_isub, c_gf_0_2, x_iaload, x_bipush, x_irem, x_idiv, x_iinc_3, x_goto, x_ret_v, jB0_dropValue_13, jB0_dropValue_70, uB0_dropValue_57, uB0_dropValue_70, n_0, n_1, n_2, n_3, n_4, n_5, n_6, n_7, n_8, n_9, n_10, n_12, n_13, n_15, n_16, n_20, n_24, n_60, n_64, n_72, n_96, n_192, n_256, n_400, n_808, n_960, n_1440, n_2048, n_2720, n_16777215, n_1000000, l_0, l_1, l_8, l_20, l_60, l_lt_t, l_lt_f, l_ge_t, l_ge_f, l_eq_t, l_eq_f, lN_i, nI_l, i_lt_t, i_lt_f, i_le_t, i_le_f, i_eq_t, i_eq_f, ↓n_m1, ↓n_m2, i_m1, i_m1s, i_m1lt, i_m1le, i_m1l2, i_m1l3, i_mm, nI_add, pk_mul, i_sub, i_dec, i_dec0, i_s01, i_div, Nat.reduceAdd, Nat.reduceSub, Nat.reduceMul, Nat.zero_add, if_true, if_false, not_true, not_false_eq_true, c_g_16, hw0, d1, d2, Nat.add_sub_cancel, e1]
        rw [e3]
        have q1 : (fun j => (if ks s = 4 then upN bt k.2 0 else bt) j - sS (f_cb ks 4 j) ((K, f_ka ks s k.2 a, f_kw ks s) :: (N, a + (if w then 8 else zs s), w) :: r)) = fun j => bt j - sS (f_cb ks 4 j) ((Std.DTreeMap.Internal.Impl.inner s k v K N, a, w) :: r) := by
          funext j
          have h1 := hb j
          simp only [sS, f_cb] at h1 ⊢
          by_cases h4 : ks s = 4
          · by_cases hj : j = k.2
            · subst hj
              simp only [h4, true_and, if_true, upN_s] at h1 ⊢
              omega
            · simp only [h4, true_and, if_true, upN_n _ _ hj, Ne.symm hj, if_false] at h1 ⊢
              omega
          · simp only [h4, false_and, if_false] at h1 ⊢
            omega
        have q2 : (fun j => (if ks s = 5 then upN rt k.2 0 else rt) j - sS (f_cb ks 5 j) ((K, f_ka ks s k.2 a, f_kw ks s) :: (N, a + (if w then 8 else zs s), w) :: r)) = fun j => rt j - sS (f_cb ks 5 j) ((Std.DTreeMap.Internal.Impl.inner s k v K N, a, w) :: r) := by
          funext j
          have h1 := hr j
          simp only [sS, f_cb] at h1 ⊢
          by_cases h4 : ks s = 5
          · by_cases hj : j = k.2
            · subst hj
              simp only [h4, true_and, if_true, upN_s] at h1 ⊢
              omega
            · simp only [h4, true_and, if_true, upN_n _ _ hj, Ne.symm hj, if_false] at h1 ⊢
              omega
          · simp only [h4, false_and, if_false] at h1 ⊢
            omega
        have q3 : (if ks s = 4 then nb - 1 else nb) - sS (f_nk ks 4) ((K, f_ka ks s k.2 a, f_kw ks s) :: (N, a + (if w then 8 else zs s), w) :: r) = nb - sS (f_nk ks 4) ((Std.DTreeMap.Internal.Impl.inner s k v K N, a, w) :: r) := by
          simp only [sS, f_nk]; split <;> omega
        have q4 : (if ks s = 5 then nr - 1 else nr) - sS (f_nk ks 5) ((K, f_ka ks s k.2 a, f_kw ks s) :: (N, a + (if w then 8 else zs s), w) :: r) = nr - sS (f_nk ks 5) ((Std.DTreeMap.Internal.Impl.inner s k v K N, a, w) :: r) := by
          simp only [sS, f_nk]; split <;> omega
        have q5 : outp (if ks s = 2 then o1 os oc (f_v K) else os) (if ks s = 2 then n1 oc else oc) (sT ks ((K, f_ka ks s k.2 a, f_kw ks s) :: (N, a + (if w then 8 else zs s), w) :: r)) = outp os oc (sT ks ((Std.DTreeMap.Internal.Impl.inner s k v K N, a, w) :: r)) := by
          simp only [sT, f_tl, List.append_assoc]
          split
          · rfl
          · rfl
        have q6 : (if ks s = 2 then dr + 1 else dr) + sS (f_nk ks 2) ((K, f_ka ks s k.2 a, f_kw ks s) :: (N, a + (if w then 8 else zs s), w) :: r) = dr + sS (f_nk ks 2) ((Std.DTreeMap.Internal.Impl.inner s k v K N, a, w) :: r) := by
          simp only [sS, f_nk]; split <;> omega
        rw [q1, q2, q3, q4, q5, q6]
/-- a value is dropped -/
theorem c_drop {kn : Nat} {ks zs : Nat → Nat} {ps : Nat → Int32} {ce : Nat → Int64} {bt rt rl : Nat → Nat} {nb nr : Nat} {hsh hst : Nat → Nat} {ssh : Nat → Int32} {ih th : Nat} {wt : Nat → Nat} {os : Nat → Int64} {wn oc dr tm : Nat} {fa : Int32} {g : Nat → Option am_E} {n m d s a : Nat} {k : Nat × Nat} {v : Int64} {K : Fo} (hS : s_ok kn ks zs ps) (hk : kn ≤ 24) (hT : f_okT kn ks ps (.inner s k v K .leaf)) (hC : f_okC ks zs ce rl (.inner s k v K .leaf) a false) (ha : a + zs s ≤ 2720) (h5 : f_sz (.inner s k v K .leaf) ≤ 512) (hb : ∀ j, f_cb ks 4 j (.inner s k v K .leaf) ≤ bt j ∧ bt j ≤ 1) (hr : ∀ j, f_cb ks 5 j (.inner s k v K .leaf) ≤ rt j ∧ rt j ≤ 1) (hnb : f_nk ks 4 (.inner s k v K .leaf) ≤ nb) (hnb2 : nb ≤ 60) (hnr : f_nk ks 5 (.inner s k v K .leaf) ≤ nr) (hnr2 : nr ≤ 20) (ho : oc ≤ 400) :
    ∃ wt', ev (d + 6) 4 [.ref 15, .int (nI s), .int (nI a)] (n, m, CO kn ks zs ps ce bt rt rl nb nr hsh hst ssh ih th wt os wn oc dr tm fa g) = some (none, (n, m, CO kn ks zs ps ce (fun j => bt j - f_cb ks 4 j (.inner s k v K .leaf)) (fun j => rt j - f_cb ks 5 j (.inner s k v K .leaf)) rl (nb - f_nk ks 4 (.inner s k v K .leaf)) (nr - f_nk ks 5 (.inner s k v K .leaf)) hsh hst ssh ih th (wt') ((outp os oc (f_tl ks (.inner s k v K .leaf))).1) (0) ((outp os oc (f_tl ks (.inner s k v K .leaf))).2) (dr + f_nk ks 2 (.inner s k v K .leaf)) tm fa g)) := by
  have hs := hT.1
  have hz := (hS.2 s hs).2.2.1
  have hz1 := (hS.2 s hs).2.1
  obtain ⟨wt', e⟩ := c_loop (kn := kn) (ks := ks) (zs := zs) (ps := ps) (ce := ce) (rl := rl) (hsh := hsh) (hst := hst) (ssh := ssh) (ih := ih) (th := th) (tm := tm) (fa := fa) (g := g) (n := n) (m := m) (d := d) (x1 := nI s) (x2 := nI a) hS hk _ [(.inner s k v K .leaf, a, false)] bt rt nb nr (upN wt 0 (a * 24 + s)) os 1 oc dr 0 (Nat.le_refl _) (by
      intro q hq
      simp only [List.mem_singleton] at hq
      subst hq
      refine ⟨hT, hC, ?_⟩
      simp only [f_ext, Bool.false_eq_true, if_false]; omega) (by simp only [p_all, p_ents, List.append_nil]; exact ⟨upN_s _ _ _, trivial⟩) (by simp [p_all, p_ents]) (by simpa [sS] using h5) (by simp only [sS]; omega) (by simpa [sS] using hb) (by simpa [sS] using hr) (by simpa [sS] using hnb) hnb2 (by simpa [sS] using hnr) hnr2 ho
  refine ⟨wt', ?_⟩
  simp (disch := first | exact q_two_i _ | exact q_two_r _ | exact q_two_n | exact q_sh0 | exact q_sh1 _ | exact q_sh2 _ _ | exact q_sh3 _ _ _ | exact q_sh4 _ _ _ _ | exact c_cl_0 .. | exact c_cl_1 .. | exact c_cl_2 .. | exact c_cl_3 .. | exact c_cl_4 .. | exact c_tc_4_4 _ | exact c_tc_4_5 _ | exact c_tc_3_3 _ | exact c_tc_2_4 _ | exact c_tc_2_5 _ | exact c_tc_1_3 _ | exact c_tc_1_4 _ | exact c_tc_0_4 _ | exact c_tc_0_5 _ | exact c_tc_0_6 _ | exact z_01 | exact z_11 | exact nz_24 | exact nz_16 | assumption | omega) only [eB0_dropValue, x_aload_0, x_iconst, x_putf, c_pf_0_4, x_iload_1, x_iload_2, x_iv_2, x_kx1, x_kx0, x_istore_3, x_getf, c_gf_0_4, x_if_le, x_iload_3, x_ldc, x_ic_ge, x_dup_int, x_dup_ref, x_isub, c_gf_0_2, x_iaload, x_bipush, x_irem, x_idiv, x_iinc_3, x_goto, x_ret_v, jB0_dropValue_13, jB0_dropValue_70, uB0_dropValue_0, uB0_dropValue_57, uB0_dropValue_70, n_0, n_1, n_2, n_3, n_4, n_5, n_6, n_7, n_8, n_9, n_10, n_12, n_13, n_15, n_16, n_20, n_24, n_60, n_64, n_72, n_96, n_192, n_256, n_400, n_808, n_960, n_1440, n_2048, n_2720, n_16777215, n_1000000, l_0, l_1, l_8, l_20, l_60, l_lt_t, l_lt_f, l_ge_t, l_ge_f, l_eq_t, l_eq_f, lN_i, nI_l, i_lt_t, i_lt_f, i_le_t, i_le_f, i_eq_t, i_eq_f, ↓n_m1, ↓n_m2, i_m1, i_m1s, i_m1lt, i_m1le, i_m1l2, i_m1l3, i_mm, nI_add, pk_mul, i_sub, i_dec, i_dec0, i_s01, i_div, Nat.reduceAdd, Nat.reduceSub, Nat.reduceMul, Nat.zero_add, if_true, if_false, not_true, not_false_eq_true, c_await]
  simp only [sS, sT, Nat.add_zero, List.append_nil] at e
  exact e
theorem c_dropM {kn : Nat} {ks zs : Nat → Nat} {ps : Nat → Int32} {ce : Nat → Int64} {bt rt rl : Nat → Nat} {nb nr : Nat} {hsh hst : Nat → Nat} {ssh : Nat → Int32} {ih th : Nat} {wt : Nat → Nat} {os : Nat → Int64} {wn oc dr tm : Nat} {fa : Int32} {g : Nat → Option am_E} {n m d : Nat} (x : Int32) : ev (d + 2) 4 [.ref 15, .int mI, .int x] (n, m, CO kn ks zs ps ce bt rt rl nb nr hsh hst ssh ih th wt os wn oc dr tm fa g) = some (none, (n, m, CO kn ks zs ps ce bt rt rl nb nr hsh hst ssh ih th wt os (0) oc dr tm fa g)) := by
  simp (disch := first | exact q_two_i _ | exact q_two_r _ | exact q_two_n | exact q_sh0 | exact q_sh1 _ | exact q_sh2 _ _ | exact q_sh3 _ _ _ | exact q_sh4 _ _ _ _ | exact c_cl_0 .. | exact c_cl_1 .. | exact c_cl_2 .. | exact c_cl_3 .. | exact c_cl_4 .. | exact c_tc_4_4 _ | exact c_tc_4_5 _ | exact c_tc_3_3 _ | exact c_tc_2_4 _ | exact c_tc_2_5 _ | exact c_tc_1_3 _ | exact c_tc_1_4 _ | exact c_tc_0_4 _ | exact c_tc_0_5 _ | exact c_tc_0_6 _ | exact z_01 | exact z_11 | exact nz_24 | exact nz_16 | assumption | omega) only [eB0_dropValue, x_aload_0, x_iconst, x_putf, c_pf_0_4, x_iload_1, x_iload_2, x_iv_2, x_kx1, x_kx0, x_istore_3, x_getf, c_gf_0_4, x_if_le, x_iload_3, x_ldc, x_ic_ge, x_dup_int, x_dup_ref, x_isub, c_gf_0_2, x_iaload, x_bipush, x_irem, x_idiv, x_iinc_3, x_goto, x_ret_v, jB0_dropValue_13, jB0_dropValue_70, uB0_dropValue_0, uB0_dropValue_13, uB0_dropValue_57, uB0_dropValue_70, n_0, n_1, n_2, n_3, n_4, n_5, n_6, n_7, n_8, n_9, n_10, n_12, n_13, n_15, n_16, n_20, n_24, n_60, n_64, n_72, n_96, n_192, n_256, n_400, n_808, n_960, n_1440, n_2048, n_2720, n_16777215, n_1000000, l_0, l_1, l_8, l_20, l_60, l_lt_t, l_lt_f, l_ge_t, l_ge_f, l_eq_t, l_eq_f, lN_i, nI_l, i_lt_t, i_lt_f, i_le_t, i_le_f, i_eq_t, i_eq_f, ↓n_m1, ↓n_m2, i_m1, i_m1s, i_m1lt, i_m1le, i_m1l2, i_m1l3, i_mm, nI_add, pk_mul, i_sub, i_dec, i_dec0, i_s01, i_div, Nat.reduceAdd, Nat.reduceSub, Nat.reduceMul, Nat.zero_add, if_true, if_false, not_true, not_false_eq_true, c_awaitM]
