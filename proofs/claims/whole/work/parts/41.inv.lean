/-! The invariant: what class and reference hold, by the ghost roots R (hand 0 .. 23, slots 24 .. 119; root r lies at cell 8 r). -/
def s_slot : Fo → Int32
  | .leaf => mI
  | .inner s _ _ _ _ => nI s
/-- the roots are single trees of good shapes -/
def IT (kn : Nat) (ks : Nat → Nat) (ps : Nat → Int32) (R : Nat → Fo) : Prop := ∀ r, r < 120 → f_len (R r) ≤ 1 ∧ f_okT kn ks ps (R r)
/-- the class's cells, boxes, rows -/
def IC1 (ks zs : Nat → Nat) (ce : Nat → Int64) (bt rt rl : Nat → Nat) (nb nr : Nat) (R : Nat → Fo) : Prop :=
  (∀ r, r < 120 → f_okC ks zs ce rl (R r) (8 * r) false) ∧ (∀ j, bt j = rF (f_cb ks 4 j) R ∧ bt j ≤ 1) ∧ (∀ j, rt j = rF (f_cb ks 5 j) R ∧ rt j ≤ 1) ∧ nb = rF (f_nk ks 4) R ∧ nr = rF (f_nk ks 5) R
/-- the reference's nodes -/
def IR1 (so ki : Nat → Nat) (nu : Nat → Int64) (no sp : Nat) (R : Nat → Fo) (fl : List Nat) : Prop :=
  (∀ r, r < 120 → f_okR so ki nu (R r)) ∧ (∀ z, rF (f_cx z) R + fl.count z ≤ 1) ∧ (∀ z, 0 < rF (f_cx z) R + fl.count z → 1 ≤ z ∧ z < no) ∧ fr_ok ki sp fl
def IFr (ih th : Nat) (hst ah : Nat → Nat) : Prop := (1 ≤ th ∧ th ≤ 12) ∧ ih ≤ 24 ∧ hst 0 = 0 ∧ (∀ f, f + 1 < th → hst f ≤ hst (f + 1)) ∧ hst (th - 1) ≤ ih ∧ ∀ f, f < th → ah (f + 1) = hst f
/-- the labels of hand and slots -/
def IL (ih th : Nat) (hsh : Nat → Nat) (ssh : Nat → Int32) (hn sl : Nat → Nat) (R : Nat → Fo) : Prop :=
  (∀ r, r < 24 → (f_len (R r) = 1 ↔ r < ih)) ∧ (∀ r, 24 + 8 * th ≤ r → r < 120 → R r = .leaf) ∧ (∀ r, r < ih → hsh r = f_sh (R r) 0 ∧ hn r = f_rt (R r) 0) ∧ ∀ j, j < 96 → ssh j = s_slot (R (24 + j)) ∧ sl j = f_rt (R (24 + j)) 0
def ST (c : Nat) (kn : Nat) (ks zs : Nat → Nat) (ps : Nat → Int32) (ce : Nat → Int64) (bt rt rl : Nat → Nat) (nb nr : Nat) (hsh hst : Nat → Nat) (ssh : Nat → Int32) (ih th oc : Nat) (ko : Nat → Int32) (q1 q2 q3 cp : Nat) (so ki : Nat → Nat) (nu : Nat → Int64) (no sp : Nat) (hn sl ah : Nat → Nat) (R : Nat → Fo) (fl : List Nat) : Prop :=
  (s_ok kn ks zs ps ∧ kn ≤ 24) ∧ (∀ i, i < 3 * kn → ko i = ps i) ∧ IFr ih th hst ah ∧ IT kn ks ps R ∧ IL ih th hsh ssh hn sl R ∧ IC1 ks zs ce bt rt rl nb nr R ∧ IR1 so ki nu no sp R fl ∧ oc ≤ 400 ∧ (rF f_sz R ≤ c ∧ nb ≤ 60 ∧ nr ≤ 20) ∧ ((OKq q1 q2 q3 ∧ 17 < q1 ∧ 17 < q2 ∧ 17 < q3) ∧ cp < 100000 ∧ 1 ≤ no ∧ no ≤ cp ∧ no ≤ c + 1)
theorem ST_mono {c : Nat} {kn : Nat} {ks zs : Nat → Nat} {ps : Nat → Int32} {ce : Nat → Int64} {bt rt rl : Nat → Nat} {nb nr : Nat} {hsh hst : Nat → Nat} {ssh : Nat → Int32} {ih th oc : Nat} {ko : Nat → Int32} {q1 q2 q3 cp : Nat} {so ki : Nat → Nat} {nu : Nat → Int64} {no sp : Nat} {hn sl ah : Nat → Nat} {R : Nat → Fo} {fl : List Nat} (h : ST c kn ks zs ps ce bt rt rl nb nr hsh hst ssh ih th oc ko q1 q2 q3 cp so ki nu no sp hn sl ah R fl) : ST (c + 1) kn ks zs ps ce bt rt rl nb nr hsh hst ssh ih th oc ko q1 q2 q3 cp so ki nu no sp hn sl ah R fl := by
  obtain ⟨h1, h2, h3, h4, h5, h6, h7, h8, ⟨h9, h10⟩, h11, h12, h13, h14, h15⟩ := h
  exact ⟨h1, h2, h3, h4, h5, h6, h7, h8, ⟨by omega, h10⟩, h11, h12, h13, h14, by omega⟩
def INV (e0 : Option am_E) (c : Nat) (h : am_H) : Prop := ∃ (kn : Nat) (ks zs : Nat → Nat) (ps : Nat → Int32) (ce : Nat → Int64) (bt rt rl : Nat → Nat) (nb nr : Nat) (hsh hst : Nat → Nat) (ssh : Nat → Int32) (ih th : Nat) (wt : Nat → Nat) (os : Nat → Int64) (wn oc dr tm : Nat) (fa : Int32) (ko : Nat → Int32) (q1 q2 q3 cp : Nat) (so ki : Nat → Nat) (nu : Nat → Int64) (no sp : Nat) (hn sl ah : Nat → Nat) (isl inn atk : Nat) (R : Nat → Fo) (fl : List Nat) (g : Nat → Option am_E) (n m : Nat), h = (n, m, CO kn ks zs ps ce bt rt rl nb nr hsh hst ssh ih th wt os wn oc dr tm fa (RO kn ks zs ko q1 q2 q3 cp so ki nu no sp hn sl ah ih th os oc nb nr tm dr isl inn atk g)) ∧ ST c kn ks zs ps ce bt rt rl nb nr hsh hst ssh ih th oc ko q1 q2 q3 cp so ki nu no sp hn sl ah R fl ∧ NQ n q1 q2 q3 ∧ (n ≤ 28 + 3 * c ∧ m ≤ 20000 + 10260 * c) ∧ g 0 = e0
/-- a call on both: one answer -/
def vkd (j : Nat) : Value → Bool
  | .int _ => !(j == 81 || j == 83)
  | .long _ => j == 81 || j == 83
  | _ => false
def SS (e0 : Option am_E) (d jc jr : Nat) (a : List Value) (c : Nat) (h : am_H) : Prop := ∃ r h1 h2, (ev d jc (.ref 1 :: a) h = some (some r, h1) ∧ am_cl h1 18 = some 5 ∧ vkd jc r = true ∧ h1.2.2 0 = e0) ∧ ev d jr (.ref 18 :: a) h1 = some (some r, h2) ∧ INV e0 (c + 1) h2
theorem CO_hi {kn : Nat} {ks zs : Nat → Nat} {ps : Nat → Int32} {ce : Nat → Int64} {bt rt rl : Nat → Nat} {nb nr : Nat} {hsh hst : Nat → Nat} {ssh : Nat → Int32} {ih th : Nat} {wt : Nat → Nat} {os : Nat → Int64} {wn oc dr tm : Nat} {fa : Int32} {g : Nat → Option am_E} {p : Nat} (h : 17 < p ∨ p = 0) : CO kn ks zs ps ce bt rt rl nb nr hsh hst ssh ih th wt os wn oc dr tm fa g p = g p := by
  unfold CO
  split <;> first | omega | rfl
theorem CO_lo {kn : Nat} {ks zs : Nat → Nat} {ps : Nat → Int32} {ce : Nat → Int64} {bt rt rl : Nat → Nat} {nb nr : Nat} {hsh hst : Nat → Nat} {ssh : Nat → Int32} {ih th : Nat} {wt : Nat → Nat} {os : Nat → Int64} {wn oc dr tm : Nat} {fa : Int32} {g g2 : Nat → Option am_E} {p : Nat} (h : 1 ≤ p ∧ p ≤ 17) : CO kn ks zs ps ce bt rt rl nb nr hsh hst ssh ih th wt os wn oc dr tm fa g p = CO kn ks zs ps ce bt rt rl nb nr hsh hst ssh ih th wt os wn oc dr tm fa g2 p := by
  obtain ⟨h1, h2⟩ := h
  have : p = 1 ∨ p = 2 ∨ p = 3 ∨ p = 4 ∨ p = 5 ∨ p = 6 ∨ p = 7 ∨ p = 8 ∨ p = 9 ∨ p = 10 ∨ p = 11 ∨ p = 12 ∨ p = 13 ∨ p = 14 ∨ p = 15 ∨ p = 16 ∨ p = 17 := by omega
  rcases this with rfl | rfl | rfl | rfl | rfl | rfl | rfl | rfl | rfl | rfl | rfl | rfl | rfl | rfl | rfl | rfl | rfl <;> rfl
theorem RO_lo {sh : Nat} {kd kz : Nat → Nat} {ko : Nat → Int32} {q1 q2 q3 cp : Nat} {so ki : Nat → Nat} {nu : Nat → Int64} {no sp : Nat} {hn sl ah : Nat → Nat} {he fr : Nat} {ou : Nat → Int64} {tol bx rws ma dpd isl inn atk : Nat} {g : Nat → Option am_E} {p : Nat} (hq : 17 < q1 ∧ 17 < q2 ∧ 17 < q3) (h : p ≤ 17) : RO sh kd kz ko q1 q2 q3 cp so ki nu no sp hn sl ah he fr ou tol bx rws ma dpd isl inn atk g p = g p := by
  unfold RO
  rw [ovl_at ⟨by omega, by omega, by omega⟩]
  unfold RF
  split <;> first | omega | rfl
theorem RO_cg {sh : Nat} {kd kz : Nat → Nat} {ko : Nat → Int32} {q1 q2 q3 cp : Nat} {so ki : Nat → Nat} {nu : Nat → Int64} {no sp : Nat} {hn sl ah : Nat → Nat} {he fr : Nat} {ou : Nat → Int64} {tol bx rws ma dpd isl inn atk : Nat} {g g2 : Nat → Option am_E} {p : Nat} (h : g p = g2 p) : RO sh kd kz ko q1 q2 q3 cp so ki nu no sp hn sl ah he fr ou tol bx rws ma dpd isl inn atk g p = RO sh kd kz ko q1 q2 q3 cp so ki nu no sp hn sl ah he fr ou tol bx rws ma dpd isl inn atk g2 p := by
  simp only [RO, ovl]
  rw [RF_cg h]
theorem CO_RO {kn : Nat} {ks zs : Nat → Nat} {ps : Nat → Int32} {ce : Nat → Int64} {bt rt rl : Nat → Nat} {nb nr : Nat} {hsh hst : Nat → Nat} {ssh : Nat → Int32} {ih th : Nat} {wt : Nat → Nat} {os : Nat → Int64} {wn oc dr tm : Nat} {fa : Int32} {sh : Nat} {kd kz : Nat → Nat} {ko : Nat → Int32} {q1 q2 q3 cp : Nat} {so ki : Nat → Nat} {nu : Nat → Int64} {no sp : Nat} {hn sl ah : Nat → Nat} {he fr : Nat} {ou : Nat → Int64} {tol bx rws ma dpd isl inn atk : Nat} {g : Nat → Option am_E} (hq : 17 < q1 ∧ 17 < q2 ∧ 17 < q3) : CO kn ks zs ps ce bt rt rl nb nr hsh hst ssh ih th wt os wn oc dr tm fa (RO sh kd kz ko q1 q2 q3 cp so ki nu no sp hn sl ah he fr ou tol bx rws ma dpd isl inn atk g) = RO sh kd kz ko q1 q2 q3 cp so ki nu no sp hn sl ah he fr ou tol bx rws ma dpd isl inn atk (CO kn ks zs ps ce bt rt rl nb nr hsh hst ssh ih th wt os wn oc dr tm fa g) := by
  funext p
  by_cases hp : 1 ≤ p ∧ p ≤ 17
  · rw [RO_lo hq hp.2]
    exact CO_lo hp
  · rw [CO_hi (by omega)]
    exact RO_cg (CO_hi (by omega)).symm
theorem SS_mk {e0 : Option am_E} {d jc jr c n m n' m' : Nat} {a : List Value} {kn : Nat} {ks zs : Nat → Nat} {ps : Nat → Int32} {ce : Nat → Int64} {bt rt rl : Nat → Nat} {nb nr : Nat} {hsh hst : Nat → Nat} {ssh : Nat → Int32} {ih th : Nat} {wt : Nat → Nat} {os : Nat → Int64} {wn oc dr tm : Nat} {fa : Int32} {ko : Nat → Int32} {q1 q2 q3 cp : Nat} {so ki : Nat → Nat} {nu : Nat → Int64} {no sp : Nat} {hn sl ah : Nat → Nat} {isl inn atk : Nat} {kn' : Nat} {ks' zs' : Nat → Nat} {ps' : Nat → Int32} {ce' : Nat → Int64} {bt' rt' rl' : Nat → Nat} {nb' nr' : Nat} {hsh' hst' : Nat → Nat} {ssh' : Nat → Int32} {ih' th' : Nat} {wt' : Nat → Nat} {os' : Nat → Int64} {wn' oc' dr' tm' : Nat} {fa' : Int32} {ko' : Nat → Int32} {q1' q2' q3' cp' : Nat} {so' ki' : Nat → Nat} {nu' : Nat → Int64} {no' sp' : Nat} {hn' sl' ah' : Nat → Nat} {isl' inn' atk' : Nat} {g : Nat → Option am_E} {r : Value} (hoq : OKq q1 q2 q3) (hq : 17 < q1 ∧ 17 < q2 ∧ 17 < q3) (hN : NQ n q1 q2 q3) (hg : g 0 = e0)
    (e1 : ∀ G, ev d jc (.ref 1 :: a) (n, m, CO kn ks zs ps ce bt rt rl nb nr hsh hst ssh ih th wt os wn oc dr tm fa G) = some (some r, (n, m, CO kn' ks' zs' ps' ce' bt' rt' rl' nb' nr' hsh' hst' ssh' ih' th' wt' os' wn' oc' dr' tm' fa' G)))
    (e2 : ∀ G, ∃ G', ev d jr (.ref 18 :: a) (n, m, RO kn ks zs ko q1 q2 q3 cp so ki nu no sp hn sl ah ih th os oc nb nr tm dr isl inn atk G) = some (some r, (n', m', RO kn' ks' zs' ko' q1' q2' q3' cp' so' ki' nu' no' sp' hn' sl' ah' ih' th' os' oc' nb' nr' tm' dr' isl' inn' atk' G')) ∧ ∀ p, p ≤ n → p ≠ q1 → p ≠ q2 → p ≠ q3 → G' p = G p)
    (hI : ∃ R fl, ST (c + 1) kn' ks' zs' ps' ce' bt' rt' rl' nb' nr' hsh' hst' ssh' ih' th' oc' ko' q1' q2' q3' cp' so' ki' nu' no' sp' hn' sl' ah' R fl) (hN' : NQ n' q1' q2' q3') (hB : n' ≤ 28 + 3 * (c + 1) ∧ m' ≤ 20000 + 10260 * (c + 1)) (hkd : vkd jc r = true := by rfl) : SS e0 d jc jr a c (n, m, CO kn ks zs ps ce bt rt rl nb nr hsh hst ssh ih th wt os wn oc dr tm fa (RO kn ks zs ko q1 q2 q3 cp so ki nu no sp hn sl ah ih th os oc nb nr tm dr isl inn atk g)) := by
  obtain ⟨G', e3, e4⟩ := e2 (CO kn' ks' zs' ps' ce' bt' rt' rl' nb' nr' hsh' hst' ssh' ih' th' wt' os' wn' oc' dr' tm' fa' g)
  obtain ⟨R, fl, hI⟩ := hI
  have hq' := hI.2.2.2.2.2.2.2.2.2.1.2
  refine ⟨r, _, (n', m', RO kn' ks' zs' ko' q1' q2' q3' cp' so' ki' nu' no' sp' hn' sl' ah' ih' th' os' oc' nb' nr' tm' dr' isl' inn' atk' G'), ⟨e1 _, by rw [CO_RO hq]; exact c_cl_5 hoq, hkd, by dsimp only; rw [CO_hi (Or.inr rfl), RO_lo hq (by omega), hg]⟩, ?_, ?_⟩
  · rw [CO_RO hq]
    exact e3
  · refine ⟨kn', ks', zs', ps', ce', bt', rt', rl', nb', nr', hsh', hst', ssh', ih', th', wt', os', wn', oc', dr', tm', fa', ko', q1', q2', q3', cp', so', ki', nu', no', sp', hn', sl', ah', isl', inn', atk', R, fl, G', n', m', ?_, hI, hN', hB, ?_⟩
    · refine Prod.ext rfl (Prod.ext rfl ?_)
      dsimp only
      rw [CO_RO hq']
      funext p
      apply RO_cg
      by_cases hp : 1 ≤ p ∧ p ≤ 17
      · have h28 := hN.1
        rw [e4 p (by omega) (by omega) (by omega) (by omega)]
        exact CO_lo hp
      · rw [CO_hi (by omega)]
    · have h28 := hN.1
      rw [e4 0 (by omega) (by omega) (by omega) (by omega), CO_hi (Or.inr rfl), hg]
theorem f_one {F : Fo} (h : f_len F = 1) : ∃ s k v K, F = .inner s k v K .leaf := by
  obtain ⟨s, k, v, K, N, rfl, hN⟩ := f_lenS h
  obtain rfl := f_len0 hN
  exact ⟨s, k, v, K, rfl⟩
/-- a root's cells in line are its own eight -/
theorem f_ext8 {kn : Nat} {ks zs : Nat → Nat} {ps : Nat → Int32} {F : Fo} (hS : s_ok kn ks zs ps) (hT : f_okT kn ks ps F) (hl : f_len F ≤ 1) : f_ext zs F false ≤ 8 := by
  cases F with
  | leaf => simp [f_ext]
  | inner s k v K N =>
    have : f_len N = 0 := by simp only [f_len] at hl; omega
    obtain rfl := f_len0 this
    have := (hS.2 s hT.1).2.2.1
    simp only [f_ext, Bool.false_eq_true, if_false]; omega
/-- an int is one of the first k numbers, or not -/
theorem i_cs (k : Nat) (x : Int32) (hk : k < 2 ^ 31) : (∃ s, s < k ∧ x = nI s) ∨ (x < 0 ∨ nI k ≤ x) := by
  by_cases h0 : x < 0
  · exact Or.inr (Or.inl h0)
  · by_cases h1 : nI k ≤ x
    · exact Or.inr (Or.inr h1)
    · refine Or.inl ⟨x.toNatClampNeg, ?_, ?_⟩
      · have h2 : x < nI k := Int32.not_le.mp h1
        rw [Int32.lt_iff_toInt_lt] at h2 h0
        have h3 : (nI k).toInt = (k : Int) := by
          have := nI_clamp hk
          have h4 := nI_pos (n := k) hk
          rw [Int32.lt_iff_toInt_lt] at h4
          unfold Int32.toNatClampNeg at this
          have h5 : (0 : Int32).toInt = 0 := rfl
          omega
        have h5 : (0 : Int32).toInt = 0 := rfl
        unfold Int32.toNatClampNeg
        omega
      · have h5 : (0 : Int32).toInt = 0 := rfl
        rw [Int32.lt_iff_toInt_lt] at h0
        have h6 : x.toInt < 2 ^ 31 := x.toInt_lt
        have h7 : x.toNatClampNeg < 2 ^ 31 := by unfold Int32.toNatClampNeg; omega
        apply Int32.toInt_inj.mp
        have h8 := nI_clamp h7
        have h4 := nI_pos (n := x.toNatClampNeg) h7
        rw [Int32.lt_iff_toInt_lt] at h4
        unfold Int32.toNatClampNeg at h8 h4 ⊢
        omega
