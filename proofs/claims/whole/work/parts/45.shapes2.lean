/-! The calls that tell shapes. -/
/-- a shape or NONE -/
def vO (kn : Nat) (x : Int32) : Prop := x = mI ∨ ∃ p, p < kn ∧ x = nI p
def szv (zs : Nat → Nat) (x : Int32) : Nat := if x = mI then 0 else zs x.toNatClampNeg
theorem szv_m {zs : Nat → Nat} : szv zs mI = 0 := by simp [szv]
theorem szv_n {zs : Nat → Nat} {p : Nat} (h : p < 2 ^ 31) : szv zs (nI p) = zs p := by
  unfold szv
  rw [if_neg (by rw [i_m1 h]; exact fun e => e), nI_clamp h]
theorem vO_c (kn : Nat) (x : Int32) (hk : kn ≤ 24) : vO kn x ∨ ((x < 0 ∨ nI kn ≤ x) ∧ ¬ x = mI) := by
  by_cases h : x = mI
  · exact Or.inl (Or.inl h)
  · rcases i_cs kn x (by omega) with h1 | h1
    · exact Or.inl (Or.inr h1)
    · exact Or.inr ⟨h1, h⟩
theorem c_hasOV {kn : Nat} {ks zs : Nat → Nat} {ps : Nat → Int32} {ce : Nat → Int64} {bt rt rl : Nat → Nat} {nb nr : Nat} {hsh hst : Nat → Nat} {ssh : Nat → Int32} {ih th : Nat} {wt : Nat → Nat} {os : Nat → Int64} {wn oc dr tm : Nat} {fa : Int32} {g : Nat → Option am_E} {n m d : Nat} (x : Int32) (hk : kn ≤ 24) (hx : vO kn x) : ev (d + 2) 52 [.ref 2, .int x] (n, m, CO kn ks zs ps ce bt rt rl nb nr hsh hst ssh ih th wt os wn oc dr tm fa g) = some (some (.int 1), (n, m, CO kn ks zs ps ce bt rt rl nb nr hsh hst ssh ih th wt os wn oc dr tm fa g)) := by
  rcases hx with rfl | ⟨p, hp, rfl⟩
  · exact c_hasO1
  · exact c_hasO p hk hp
theorem c_sizeV {kn : Nat} {ks zs : Nat → Nat} {ps : Nat → Int32} {ce : Nat → Int64} {bt rt rl : Nat → Nat} {nb nr : Nat} {hsh hst : Nat → Nat} {ssh : Nat → Int32} {ih th : Nat} {wt : Nat → Nat} {os : Nat → Int64} {wn oc dr tm : Nat} {fa : Int32} {g : Nat → Option am_E} {n m d : Nat} (x : Int32) (hk : kn ≤ 24) (hx : vO kn x) : ev (d + 2) 54 [.ref 2, .int x] (n, m, CO kn ks zs ps ce bt rt rl nb nr hsh hst ssh ih th wt os wn oc dr tm fa g) = some (some (.int (nI (szv zs x))), (n, m, CO kn ks zs ps ce bt rt rl nb nr hsh hst ssh ih th wt os wn oc dr tm fa g)) := by
  rcases hx with rfl | ⟨p, hp, rfl⟩
  · rw [szv_m]; exact c_sizeM
  · rw [szv_n (by omega)]; exact c_size p hk hp
theorem m_sizeV {sh : Nat} {kd kz : Nat → Nat} {ko : Nat → Int32} {q1 q2 q3 cp : Nat} {so ki : Nat → Nat} {nu : Nat → Int64} {no sp : Nat} {hn sl ah : Nat → Nat} {he fr : Nat} {ou : Nat → Int64} {tol bx rws ma dpd isl inn atk : Nat} {g : Nat → Option am_E} {n m d : Nat} (hq : OKq q1 q2 q3) (x : Int32) (hk : sh ≤ 24) (hx : vO sh x) : ev (d + 1) 108 [.ref 18, .int x] (n, m, RO sh kd kz ko q1 q2 q3 cp so ki nu no sp hn sl ah he fr ou tol bx rws ma dpd isl inn atk g) = some (some (.int (nI (szv kz x))), (n, m, RO sh kd kz ko q1 q2 q3 cp so ki nu no sp hn sl ah he fr ou tol bx rws ma dpd isl inn atk g)) := by
  rcases hx with rfl | ⟨p, hp, rfl⟩
  · rw [szv_m]; exact m_size0 hq
  · rw [szv_n (by omega)]; exact m_size hq p (by omega)
/-- b is NONE, or a shape -/
theorem m_isV {sh : Nat} {kd kz : Nat → Nat} {ko : Nat → Int32} {q1 q2 q3 cp : Nat} {so ki : Nat → Nat} {nu : Nat → Int64} {no sp : Nat} {hn sl ah : Nat → Nat} {he fr : Nat} {ou : Nat → Int64} {tol bx rws ma dpd isl inn atk : Nat} {g : Nat → Option am_E} {n m d : Nat} (hq : OKq q1 q2 q3) (x : Int32) (hk : sh ≤ 24) (hx : vO sh x) (h1 : ¬ x = mI) : ev (d + 2) 106 [.ref 18, .int x] (n, m, RO sh kd kz ko q1 q2 q3 cp so ki nu no sp hn sl ah he fr ou tol bx rws ma dpd isl inn atk g) = some (some (.int 1), (n, m, RO sh kd kz ko q1 q2 q3 cp so ki nu no sp hn sl ah he fr ou tol bx rws ma dpd isl inn atk g)) := by
  rcases hx with rfl | ⟨p, hp, rfl⟩
  · exact absurd rfl h1
  · exact m_is hq p hp hk
def s_new (kn : Nat) (zs : Nat → Nat) (k z : Nat) (a b c : Int32) : Prop := ((1 ≤ k ∧ k ≤ 5) ∧ 1 ≤ z ∧ z ≤ 8) ∧ (vO kn a ∧ vO kn b ∧ vO kn c) ∧ (k = 4 ∨ k = 5 → z = 1) ∧ (k = 1 ∨ k = 2 → (∃ p, p < kn ∧ a = nI p) ∧ (b = mI → c = mI) ∧ z = szv zs a + szv zs b + szv zs c) ∧ (k = 2 → a = nI 0) ∧ (k = 3 → szv zs a + 1 ≤ z ∧ szv zs b + 1 ≤ z ∧ szv zs c + 1 ≤ z) ∧ (k = 5 → ∃ p, p < kn ∧ a = nI p)
def ps3 (ps : Nat → Int32) (kn : Nat) (a b c : Int32) : Nat → Int32 := upN (upN (upN ps (kn * 3) a) (kn * 3 + 1) b) (kn * 3 + 2) c
theorem ps3_o {ps : Nat → Int32} {kn s i : Nat} {a b c : Int32} (h : s < kn) (hi : i < 3) : ps3 ps kn a b c (s * 3 + i) = ps (s * 3 + i) := by
  unfold ps3
  rw [upN_n _ _ (by omega), upN_n _ _ (by omega), upN_n _ _ (by omega)]
theorem ps3_0 {ps : Nat → Int32} {kn : Nat} {a b c : Int32} : ps3 ps kn a b c (kn * 3 + 0) = a := by
  unfold ps3
  rw [upN_n _ _ (by omega), upN_n _ _ (by omega)]; exact upN_s _ _ _
theorem ps3_1 {ps : Nat → Int32} {kn : Nat} {a b c : Int32} : ps3 ps kn a b c (kn * 3 + 1) = b := by
  unfold ps3
  rw [upN_n _ _ (by omega), upN_s]
theorem ps3_2 {ps : Nat → Int32} {kn : Nat} {a b c : Int32} : ps3 ps kn a b c (kn * 3 + 2) = c := by
  unfold ps3
  rw [upN_s]
theorem s_zp_v (zs : Nat → Nat) (ps : Nat → Int32) (q : Nat) : s_zp zs ps q = szv zs (ps q) := rfl
theorem szv_up {zs : Nat → Nat} {kn z : Nat} {x : Int32} (hk : kn ≤ 24) (h : vO kn x) : szv (upN zs kn z) x = szv zs x := by
  rcases h with rfl | ⟨p, hp, rfl⟩
  · rw [szv_m, szv_m]
  · rw [szv_n (by omega), szv_n (by omega), upN_n _ _ (by omega)]
theorem nI_inj {a b : Nat} (ha : a < 2 ^ 31) (hb : b < 2 ^ 31) (h : nI a = nI b) : a = b := (nI_eq ha hb).mp h
theorem s_ok_add {kn : Nat} {ks zs : Nat → Nat} {ps : Nat → Int32} {k z : Nat} {a b c : Int32} (hS : s_ok kn ks zs ps) (hk : kn < 24) (hw : s_new kn zs k z a b c) : s_ok (kn + 1) (upN ks kn k) (upN zs kn z) (ps3 ps kn a b c) := by
  obtain ⟨⟨⟨w1, w2⟩, w3, w4⟩, ⟨va, vb, vc⟩, w5, w6, w7, w8, w9⟩ := hw
  obtain ⟨⟨h1, h2, h3⟩, hs⟩ := hS
  have lift : ∀ x, vO kn x → x = mI ∨ ∃ p, p < kn + 1 ∧ x = nI p := fun x hx => hx.imp id (fun ⟨p, hp, e⟩ => ⟨p, by omega, e⟩)
  have low : ∀ x p, vO kn x → p < kn + 1 → x = nI p → p < kn ∧ szv zs x = zs p := fun x p hx hp e => by
    rcases hx with rfl | ⟨p2, hp2, rfl⟩
    · have := (i_m1s (show p < 2 ^ 31 by omega)).mp e; exact this.elim
    · have := nI_inj (by omega) (by omega) e
      subst this
      exact ⟨hp2, szv_n (by omega)⟩
  refine ⟨⟨by omega, by rw [upN_n _ _ (by omega)]; exact h2, fun s hs' e => ?_⟩, fun s hs' => ?_⟩
  · by_cases q : s = kn
    · subst q; rw [upN_s] at e; omega
    · rw [upN_n _ _ q] at e; exact h3 s (by omega) e
  · by_cases q : s = kn
    · subst q
      simp only [upN_s]
      have ea : ps3 ps s a b c (s * 3 + 0) = a := ps3_0
      have eb : ps3 ps s a b c (s * 3 + 1) = b := ps3_1
      have ec : ps3 ps s a b c (s * 3 + 2) = c := ps3_2
      have e3 : ∀ (Q : Int32 → Prop), Q a → Q b → Q c → ∀ i, i < 3 → Q (ps3 ps s a b c (s * 3 + i)) := fun Q qa qb qc i hi => by
        have : i = 0 ∨ i = 1 ∨ i = 2 := by omega
        rcases this with rfl | rfl | rfl
        · rw [ea]; exact qa
        · rw [eb]; exact qb
        · rw [ec]; exact qc
      refine ⟨w2, w3, w4, e3 (fun x => x = mI ∨ ∃ p, p < s + 1 ∧ x = nI p) (lift a va) (lift b vb) (lift c vc), fun e => w5 (by omega), fun e => ?_, fun e => by rw [ea]; exact w7 e, fun e => ?_, fun e => by rw [ea]; exact w9 e⟩
      · obtain ⟨x1, x2, x3⟩ := w6 e
        refine ⟨by rw [ea]; exact x1, by rw [eb, ec]; exact x2, ?_, ?_⟩
        · rw [s_zp_v, s_zp_v, s_zp_v, ea, eb, ec, szv_up (by omega) va, szv_up (by omega) vb, szv_up (by omega) vc]; exact x3
        · intro i p hi hp
          exact e3 (fun x => x = nI p → p < s) (fun e => (low a p va hp e).1) (fun e => (low b p vb hp e).1) (fun e => (low c p vc hp e).1) i hi
      · obtain ⟨x1, x2, x3⟩ := w8 e
        intro i p hi hp
        have fin : ∀ x, vO s x → szv zs x + 1 ≤ z → x = nI p → upN zs s z p + 1 ≤ z ∧ p < s := fun x hx hz e => by
          obtain ⟨l1, l2⟩ := low x p hx hp e
          rw [upN_n _ _ (by omega)]
          exact ⟨by omega, l1⟩
        exact e3 (fun x => x = nI p → upN zs s z p + 1 ≤ z ∧ p < s) (fin a va x1) (fin b vb x2) (fin c vc x3) i hi
    · have hs2 : s < kn := by omega
      obtain ⟨y1, y2, y3, y4, y5, y6, y7, y8, y9⟩ := hs s hs2
      have ee : ∀ i, i < 3 → ps3 ps kn a b c (s * 3 + i) = ps (s * 3 + i) := fun i hi => ps3_o hs2 hi
      have vv : ∀ i, i < 3 → vO kn (ps (s * 3 + i)) := fun i hi => y4 i hi
      rw [upN_n _ _ q, upN_n _ _ q, ee 0 (by omega), ee 1 (by omega), ee 2 (by omega)]
      refine ⟨y1, y2, y3, fun i hi => by rw [ee i hi]; exact lift _ (vv i hi), y5, fun e => ?_, y7, fun e => ?_, fun e => ?_⟩
      · obtain ⟨x1, x2, x3, x4⟩ := y6 e
        refine ⟨x1, x2, ?_, fun i p hi hp e2 => ?_⟩
        · rw [s_zp_v, s_zp_v, s_zp_v, ee 0 (by omega), ee 1 (by omega), ee 2 (by omega), szv_up (by omega) (vv 0 (by omega)), szv_up (by omega) (vv 1 (by omega)), szv_up (by omega) (vv 2 (by omega))]; exact x3
        · rw [ee i hi] at e2
          exact x4 i p hi (low _ p (vv i hi) hp e2).1 e2
      · intro i p hi hp e2
        rw [ee i hi] at e2
        have l1 := (low _ p (vv i hi) hp e2).1
        have := y8 e i p hi l1 e2
        rw [upN_n _ _ (by omega)]
        exact this
      · exact y9 e
/-- trees under a table that has grown -/
theorem f_add {kn : Nat} {ks ks2 zs zs2 : Nat → Nat} {ps ps2 : Nat → Int32} (hz : ∀ s, s < kn → ks2 s = ks s ∧ zs2 s = zs s ∧ ∀ i, i < 3 → ps2 (s * 3 + i) = ps (s * 3 + i)) : ∀ (F : Fo), f_okT kn ks ps F → f_okT (kn + 1) ks2 ps2 F ∧ (∀ ce rl a w, f_okC ks zs ce rl F a w → f_okC ks2 zs2 ce rl F a w) ∧ (∀ q j, f_cb ks2 q j F = f_cb ks q j F) ∧ ∀ q, f_nk ks2 q F = f_nk ks q F
  | .leaf, _ => ⟨trivial, fun _ _ _ _ _ => trivial, fun _ _ => rfl, fun _ => rfl⟩
  | .inner s k v K N, hT => by
    obtain ⟨t1, t2, t3, t4⟩ := hT
    obtain ⟨a1, a2, a3, a4⟩ := f_add hz K t3
    obtain ⟨b1, b2, b3, b4⟩ := f_add hz N t4
    obtain ⟨e1, e2, e3⟩ := hz s t1
    refine ⟨⟨by omega, ?_, a1, b1⟩, fun ce rl a w hC => ?_, fun q j => by simp only [f_cb, e1, a3, b3], fun q => by simp only [f_nk, e1, a4, b4]⟩
    · have enp : s_np ps2 s = s_np ps s := by simp only [s_np, e3 1 (by omega), e3 2 (by omega)]
      have np3 : s_np ps s ≤ 3 := by unfold s_np; split; omega; split <;> omega
      unfold f_ty
      rw [e1, enp]
      rcases t2 with q | ⟨q1, q2, q3⟩ | ⟨q1, t, q2, q3, q4⟩ | ⟨q1, q2, q3⟩ | ⟨q1, q2, q3, q4⟩
      · exact Or.inl q
      · exact Or.inr (Or.inl ⟨q1, q2, fun i hi => by rw [e3 i (by omega), q3 i hi]⟩)
      · exact Or.inr (Or.inr (Or.inl ⟨q1, t, q2, q3, by rw [e3 t q2]; exact q4⟩))
      · exact Or.inr (Or.inr (Or.inr (Or.inl ⟨q1, q2, by rw [e3 0 (by omega)]; exact q3⟩)))
      · exact Or.inr (Or.inr (Or.inr (Or.inr ⟨q1, q2, q3, fun i hi => by rw [e3 0 (by omega)]; exact q4 i hi⟩)))
    · simp only [f_okC, e1, e2] at hC ⊢
      exact ⟨⟨hC.1.1, fun h => a2 _ _ _ _ (hC.1.2.1 h), fun h => ⟨(hC.1.2.2.1 h).1, a2 _ _ _ _ (hC.1.2.2.1 h).2⟩, fun h => ⟨(hC.1.2.2.2.1 h).1, (hC.1.2.2.2.1 h).2.1, a2 _ _ _ _ (hC.1.2.2.2.1 h).2.2⟩, fun h => ⟨(hC.1.2.2.2.2 h).1, (hC.1.2.2.2.2 h).2.1, (hC.1.2.2.2.2 h).2.2.1, a2 _ _ _ _ (hC.1.2.2.2.2 h).2.2.2⟩⟩, b2 _ _ _ _ hC.2⟩
theorem rF_cg {f f2 : Fo → Nat} {R : Nat → Fo} (h : ∀ r, r < 120 → f2 (R r) = f (R r)) : rF f2 R = rF f R := rs_congr 120 h
theorem ST_add {c : Nat} {kn : Nat} {ks zs : Nat → Nat} {ps : Nat → Int32} {ce : Nat → Int64} {bt rt rl : Nat → Nat} {nb nr : Nat} {hsh hst : Nat → Nat} {ssh : Nat → Int32} {ih th oc : Nat} {ko : Nat → Int32} {q1 q2 q3 cp : Nat} {so ki : Nat → Nat} {nu : Nat → Int64} {no sp : Nat} {hn sl ah : Nat → Nat} {R : Nat → Fo} {fl : List Nat} (hI : ST c kn ks zs ps ce bt rt rl nb nr hsh hst ssh ih th oc ko q1 q2 q3 cp so ki nu no sp hn sl ah R fl) {k z : Nat} {x1 x2 x3 : Int32} (hkn : kn < 24) (hw : s_new kn zs k z x1 x2 x3) : ST (c + 1) (kn + 1) (upN ks kn k) (upN zs kn z) (upN (upN (upN ps (kn * 3) x1) (kn * 3 + 1) x2) (kn * 3 + 2) x3) ce bt rt rl nb nr hsh hst ssh ih th oc (upN (upN (upN ko (3 * kn) x1) (3 * kn + 1) x2) (3 * kn + 2) x3) q1 q2 q3 cp so ki nu no sp hn sl ah R fl := by
  obtain ⟨⟨hS, hk⟩, hK, hF, hT, hL, hC, hR, hO, ⟨b1, b2, b3⟩, hQ, q4, q5, q6, q7⟩ := hI
  have hz : ∀ s, s < kn → upN ks kn k s = ks s ∧ upN zs kn z s = zs s ∧ ∀ i, i < 3 → ps3 ps kn x1 x2 x3 (s * 3 + i) = ps (s * 3 + i) := fun s hs => ⟨upN_n _ _ (by omega), upN_n _ _ (by omega), fun i hi => ps3_o hs hi⟩
  have hf := fun r (hr : r < 120) => f_add hz (R r) (hT r hr).2
  obtain ⟨c1, c2, c3, c4, c5⟩ := hC
  refine ⟨⟨s_ok_add hS hkn hw, by omega⟩, fun i hi => ?_, hF, fun r hr => ⟨(hT r hr).1, (hf r hr).1⟩, hL, ⟨fun r hr => (hf r hr).2.1 _ _ _ _ (c1 r hr), fun j => ?_, fun j => ?_, ?_, ?_⟩, hR, hO, ⟨by omega, b2, b3⟩, hQ, q4, q5, q6, by omega⟩
  · unfold upN
    rw [Nat.mul_comm kn 3]
    by_cases e2 : i = 3 * kn + 2
    · rw [if_pos e2, if_pos e2]
    · rw [if_neg e2, if_neg e2]
      by_cases e1 : i = 3 * kn + 1
      · rw [if_pos e1, if_pos e1]
      · rw [if_neg e1, if_neg e1]
        by_cases e0 : i = 3 * kn
        · rw [if_pos e0, if_pos e0]
        · rw [if_neg e0, if_neg e0]; exact hK i (by omega)
  · rw [rF_cg (fun r hr => (hf r hr).2.2.1 4 j)]; exact c2 j
  · rw [rF_cg (fun r hr => (hf r hr).2.2.1 5 j)]; exact c3 j
  · rw [rF_cg (fun r hr => (hf r hr).2.2.2 4)]; exact c4
  · rw [rF_cg (fun r hr => (hf r hr).2.2.2 5)]; exact c5
