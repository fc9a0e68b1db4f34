/-! find; both on one path. -/
def kD (k dg kid : Nat) : Prop := (((k = 1 ∨ k = 2) ∧ 1 ≤ dg ∧ dg ≤ 3) ∧ kid = dg - 1) ∨ ((k = 4 ∧ dg = 5 ∨ k = 3 ∧ dg = 6) ∧ kid = 0) ∨ (k = 5 ∧ 8 ≤ dg ∧ kid = dg - 8)
theorem kx_D {k l dg kid : Nat} (h : kD k dg kid) : kx k l dg = if kid < l then some kid else none := by
  unfold kx
  rcases h with ⟨h1, rfl⟩ | ⟨h1, rfl⟩ | ⟨h1, h2, rfl⟩
  · by_cases hl : dg - 1 < l
    · rw [if_pos ⟨h1.1, h1.2.1, h1.2.2, hl⟩, if_pos hl]
    · rw [if_neg (fun q => hl q.2.2.2), if_neg (by omega), if_neg (by omega), if_neg hl]
  · by_cases hl : 0 < l
    · rw [if_neg (by omega), if_pos ⟨h1, hl⟩, if_pos hl]
    · rw [if_neg (by omega), if_neg (fun q => hl q.2), if_neg (by omega), if_neg hl]
  · by_cases hl : dg - 8 < l
    · rw [if_neg (by omega), if_neg (by omega), if_pos ⟨h1, h2, hl⟩, if_pos hl]
    · rw [if_neg (by omega), if_neg (by omega), if_neg (fun q => hl q.2.2), if_neg hl]
theorem kx_N {k l dg : Nat} (h : ¬ (((k = 1 ∨ k = 2) ∧ 1 ≤ dg ∧ dg ≤ 3) ∨ (k = 4 ∧ dg = 5 ∨ k = 3 ∧ dg = 6) ∨ (k = 5 ∧ 8 ≤ dg))) : kx k l dg = none := by
  unfold kx
  rw [if_neg (fun q => h (Or.inl ⟨q.1, q.2.1, q.2.2.1⟩)), if_neg (fun q => h (Or.inr (Or.inl q.1))), if_neg (fun q => h (Or.inr (Or.inr ⟨q.1, q.2.1⟩)))]
def hang (F : Fo) (p : List Bool) (j0 isl inn atk : Nat) : Prop := (p = [] ∧ isl = 1 ∧ inn = j0) ∨ ∃ p2 i s2 x2 j2 v2 K2 N2, p = p2 ++ true :: List.replicate i false ∧ b_at F p2 = .inner s2 (x2, j2) v2 K2 N2 ∧ i < f_len K2 ∧ isl = 0 ∧ inn = x2 ∧ atk = i
theorem f_ty8 {kn : Nat} {ks zs : Nat → Nat} {ps : Nat → Int32} {s : Nat} {v : Int64} {K : Fo} (h : f_ty ks ps s v K) : f_len K ≤ 8 := by
  rcases h with ⟨_, rfl⟩ | ⟨_, h, _⟩ | ⟨_, t, _, _, ⟨_, rfl⟩ | ⟨h, _⟩⟩ | ⟨_, h, _⟩ | ⟨_, _, h, _⟩
  · simp [f_len]
  · rw [h]; rcases s_np_c ps s with q | q | q <;> omega
  · simp [f_len]
  · omega
  · omega
  · exact h
theorem b_T {kn : Nat} {ks : Nat → Nat} {ps : Nat → Int32} : ∀ (p : List Bool) (F : Fo), f_okT kn ks ps F → f_okT kn ks ps (b_at F p)
  | [], F, h => by cases F <;> simpa only [b_at] using h
  | b :: p, .leaf, h => by simpa only [b_at] using h
  | true :: p, .inner s k v K N, h => b_T p K h.2.2.1
  | false :: p, .inner s k v K N, h => b_T p N h.2.2.2
theorem m_fdL {sh : Nat} {kd kz : Nat → Nat} {ko : Nat → Int32} {q1 q2 q3 cp : Nat} {so ki : Nat → Nat} {nu : Nat → Int64} {no sp : Nat} {hn sl ah : Nat → Nat} {he fr : Nat} {ou : Nat → Int64} {tol bx rws ma dpd : Nat} {ps : Nat → Int32} {g : Nat → Option am_E} {n m d j0 : Nat} {x1 x2 : Int32} {F : Fo} (hq : OKq q1 q2 q3) (hc : cp < 100000) (hS : s_ok sh kd kz ps) (hk : sh ≤ 24) (hT : f_okT sh kd ps F) (hR : f_okR so ki nu F) (hz : ∀ z, 0 < f_cx z F → 1 ≤ z ∧ z < cp) : ∀ (k r s x j : Nat) (p : List Bool) (v : Int64) (K N : Fo) (isl inn atk : Nat) (l5 l6 l7 : Option Value), k ≤ 6 → r < 16 ^ k → b_at F p = .inner s (x, j) v K N → hang F p j0 isl inn atk →
    (wk kd F k r p = none ∧ ∃ isl' inn' atk', am_X (ev (d + 1)) B5_find_0 (B5_find_50, [some (.ref 18), some (.int x1), some (.int x2), some (.int (nI x)), some (.int (nI r)), l5, l6, l7], [], (n, m, RO sh kd kz ko q1 q2 q3 cp so ki nu no sp hn sl ah he fr ou tol bx rws ma dpd isl inn atk g)) = some (some (.int (nI 0)), (n, m, RO sh kd kz ko q1 q2 q3 cp so ki nu no sp hn sl ah he fr ou tol bx rws ma dpd (isl') (inn') (atk') g))) ∨ ∃ p', wk kd F k r p = some p' ∧ ∃ isl' inn' atk', am_X (ev (d + 1)) B5_find_0 (B5_find_50, [some (.ref 18), some (.int x1), some (.int x2), some (.int (nI x)), some (.int (nI r)), l5, l6, l7], [], (n, m, RO sh kd kz ko q1 q2 q3 cp so ki nu no sp hn sl ah he fr ou tol bx rws ma dpd isl inn atk g)) = some (some (.int (nI (f_rt (b_at F p') 0))), (n, m, RO sh kd kz ko q1 q2 q3 cp so ki nu no sp hn sl ah he fr ou tol bx rws ma dpd (isl') (inn') (atk') g)) ∧ hang F p' j0 isl' inn' atk' := by
  intro k
  induction k with
  | zero =>
    intro r s x j p v K N isl inn atk l5 l6 l7 hk6 hr hp hh
    obtain rfl : r = 0 := by simp at hr; exact hr
    exact Or.inr ⟨p, rfl, isl, inn, atk, by rw [hp]; exact m_fd1 hq, hh⟩
  | succ k ih' =>
    intro r s x j p v K N isl inn atk l5 l6 l7 hk6 hr hp hh
    by_cases h0 : r = 0
    · subst h0
      exact Or.inr ⟨p, wk_z kd F _ p, isl, inn, atk, by rw [hp]; exact m_fd1 hq, hh⟩
    · have h16 : 16 ^ (k + 1) ≤ 16 ^ 6 := Nat.pow_le_pow_right (by omega) (by omega)
      have hr2 : r < 2147483648 := by omega
      have hr3 : r / 16 < 16 ^ k := by rw [Nat.pow_succ] at hr; omega
      have hTp := b_T p F hT
      rw [hp] at hTp
      have hRp := fb_Rat p F hR
      rw [hp] at hRp
      obtain ⟨⟨r1, r2, r3⟩, -⟩ := hRp
      dsimp only at r1 r2 r3
      have hx1 := fb_Ale (fA_cx x) p F hp
      simp only [if_true] at hx1
      have hx := hz x (by omega)
      have hs24 : so x < 24 := by have := hTp.1; omega
      have hk5 := (hS.2 s hTp.1).1
      have hdg : r - r / 16 * 16 = r % 16 := by omega
      have hl8 := f_ty8 (kn := sh) (zs := kz) hTp.2.1
      by_cases hD : ((kd s = 1 ∨ kd s = 2) ∧ 1 ≤ r % 16 ∧ r % 16 ≤ 3) ∨ (kd s = 4 ∧ r % 16 = 5 ∨ kd s = 3 ∧ r % 16 = 6) ∨ (kd s = 5 ∧ 8 ≤ r % 16)
      · obtain ⟨kid, hkid⟩ : ∃ kid, kD (kd s) (r % 16) kid := by
          rcases hD with h | h | h
          · exact ⟨_, Or.inl ⟨h, rfl⟩⟩
          · exact ⟨_, Or.inr (Or.inl ⟨h, rfl⟩)⟩
          · exact ⟨_, Or.inr (Or.inr ⟨h.1, h.2, rfl⟩)⟩
        have hkid8 : kid < 8 := by
          rcases hkid with ⟨h1, rfl⟩ | ⟨h1, rfl⟩ | ⟨h1, h2, rfl⟩ <;> omega
        have e1 := m_fsS (sh := sh) (kd := kd) (kz := kz) (ko := ko) (q1 := q1) (q2 := q2) (q3 := q3) (cp := cp) (so := so) (ki := ki) (nu := nu) (no := no) (sp := sp) (hn := hn) (sl := sl) (ah := ah) (he := he) (fr := fr) (ou := ou) (tol := tol) (bx := bx) (rws := rws) (ma := ma) (dpd := dpd) (isl := isl) (inn := inn) (atk := atk) (g := g) (n := n) (m := m) (d := d) (x1 := x1) (x2 := x2) (l5 := l5) (l6 := l6) (l7 := l7) hq hc hx.2 (by omega) (by omega) hr2 hdg (by omega) hs24 (by rw [r1]) hkid
        rw [e1, r3 kid hkid8]
        by_cases hi : kid < f_len K
        · have hkx : kx (kd s) (f_len K) (r % 16) = some kid := by rw [kx_D hkid, if_pos hi]
          obtain ⟨s2, k2, v2, K2, N2, hp2⟩ := kd_at kid K hi
          have hrt := (kd_set (k' := k2) (v' := v2) (K' := K2) kid K hp2).2.2.1
          have hp3 : b_at F (p ++ true :: List.replicate kid false) = .inner s2 (k2.1, k2.2) v2 K2 N2 := by rw [b_at_app, hp]; exact hp2
          have h1 := ih' (r / 16) s2 k2.1 k2.2 (p ++ true :: List.replicate kid false) v2 K2 N2 0 x kid (some (.int (nI (r % 16)))) (some (.int (nI (kd s)))) (some (.int (nI kid))) (by omega) hr3 hp3 (Or.inr ⟨p, kid, s, x, j, v, K, N, rfl, hp, hi, rfl, rfl, rfl⟩)
          rw [← wk_s h0 hp hkx, ← hrt] at h1
          exact h1
        · have hkx : kx (kd s) (f_len K) (r % 16) = none := by rw [kx_D hkid, if_neg hi]
          rw [f_rt_0 K kid (by omega)]
          exact Or.inl ⟨wk_n h0 hp hkx, 0, x, kid, m_fd0 hq (by omega)⟩
      · exact Or.inl ⟨wk_n h0 hp (kx_N hD), isl, inn, atk, m_fsN hq hc hx.2 (by omega) (by omega) hr2 hdg (by omega) hs24 (by rw [r1]) hk5 hD⟩
