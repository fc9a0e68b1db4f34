/-! One root dropped, on either side; a root moved; drop, store, load. -/
abbrev Ot : Type := (Nat → Int64) × Nat × Nat
/-- what is told, and how many were dropped, behind the drop of F -/
def dO (ks : Nat → Nat) (q : Ot) (F : Fo) : Ot := ((outp q.1 q.2.1 (f_tl ks F)).1, (outp q.1 q.2.1 (f_tl ks F)).2, q.2.2 + f_nk ks 2 F)
def CI (kn : Nat) (ks zs : Nat → Nat) (ps : Nat → Int32) (ce : Nat → Int64) (bt rt rl : Nat → Nat) (nb nr oc : Nat) (R : Nat → Fo) : Prop := IT kn ks ps R ∧ IC1 ks zs ce bt rt rl nb nr R ∧ rF f_sz R ≤ 512 ∧ (nb ≤ 60 ∧ nr ≤ 20) ∧ oc ≤ 400
def RI (kn : Nat) (ks : Nat → Nat) (ps : Nat → Int32) (so ki : Nat → Nat) (nu : Nat → Int64) (no sp nb nr oc : Nat) (R : Nat → Fo) (fl : List Nat) : Prop := IT kn ks ps R ∧ IR1 so ki nu no sp R fl ∧ (nb = rF (f_nk ks 4) R ∧ nr = rF (f_nk ks 5) R) ∧ rF f_sz R ≤ 512 ∧ oc ≤ 400
theorem rF_drl {f : Fo → Nat} {φ : Nat → Nat × Nat → Nat} (h : fA f φ) (R : Nat → Fo) {a : Nat} (ha : a < 120) : rF f (upN R a .leaf) ≤ rF f R := by rw [rF_drp h R ha]; omega
theorem upN_lf {R : Nat → Fo} {r : Nat} (h : R r = .leaf) : upN R r .leaf = R := by
  funext k
  by_cases e : k = r
  · subst e; rw [upN_s, h]
  · rw [upN_n _ _ e]
theorem c_dropR {kn : Nat} {ks zs : Nat → Nat} {ps : Nat → Int32} {ce : Nat → Int64} {bt rt rl : Nat → Nat} {nb nr : Nat} {hsh hst : Nat → Nat} {ssh : Nat → Int32} {ih th : Nat} {wt : Nat → Nat} {wn tm : Nat} {fa : Int32} {g : Nat → Option am_E} {n m d r a : Nat} {x : Int32} {R : Nat → Fo} {q : Ot} (hS : s_ok kn ks zs ps) (hk : kn ≤ 24) (h : CI kn ks zs ps ce bt rt rl nb nr q.2.1 R) (hr : r < 120) (hx : x = s_slot (R r)) (ha : a = 8 * r) :
    ∃ bt' rt' nb' nr' wt', ev (d + 6) 4 [.ref 15, .int x, .int (nI a)] (n, m, CO kn ks zs ps ce bt rt rl nb nr hsh hst ssh ih th wt (q.1) wn (q.2.1) (q.2.2) tm fa g) = some (none, (n, m, CO kn ks zs ps ce (bt') (rt') rl (nb') (nr') hsh hst ssh ih th (wt') ((dO ks q (R r)).1) (0) ((dO ks q (R r)).2.1) ((dO ks q (R r)).2.2) tm fa g)) ∧ CI kn ks zs ps ce bt' rt' rl nb' nr' (dO ks q (R r)).2.1 (upN R r .leaf) := by
  obtain ⟨h1, h2, h3, ⟨h4, h5⟩, h6⟩ := h
  subst hx ha
  rcases Nat.lt_or_ge (f_len (R r)) 1 with hl | hl
  · have e0 : R r = .leaf := f_len0 (by omega)
    refine ⟨bt, rt, nb, nr, wt, ?_, ?_⟩
    · rw [e0]
      exact c_dropM _
    · rw [upN_lf e0, e0]; exact ⟨h1, h2, h3, ⟨h4, h5⟩, h6⟩
  · obtain ⟨s, k, v, K, e0⟩ := f_one (Nat.le_antisymm (h1 r hr).1 hl)
    have hT := (h1 r hr).2
    have hC := h2.1 r hr
    have b4 := fun j => rF_ge (f_cb ks 4 j) R hr
    have b5 := fun j => rF_ge (f_cb ks 5 j) R hr
    have n4 := rF_ge (f_nk ks 4) R hr
    have n5 := rF_ge (f_nk ks 5) R hr
    have hsz := rF_ge f_sz R hr
    have hIC := IC1_drop h2 hr
    rw [e0] at hT hC b4 b5 n4 n5 hsz hIC ⊢
    have hz8 := (hS.2 s hT.1).2.2.1
    have i4 := h2.2.1
    have i5 := h2.2.2.1
    have j4 := h2.2.2.2.1
    have j5 := h2.2.2.2.2
    obtain ⟨wt', e⟩ := c_drop (kn := kn) (ks := ks) (zs := zs) (ps := ps) (ce := ce) (bt := bt) (rt := rt) (rl := rl) (nb := nb) (nr := nr) (hsh := hsh) (hst := hst) (ssh := ssh) (ih := ih) (th := th) (wt := wt) (os := q.1) (wn := wn) (oc := q.2.1) (dr := q.2.2) (tm := tm) (fa := fa) (g := g) (n := n) (m := m) (d := d) hS hk hT hC (by omega) (by omega) (fun j => ⟨by have := b4 j; have := i4 j; omega, (i4 j).2⟩) (fun j => ⟨by have := b5 j; have := i5 j; omega, (i5 j).2⟩) (by omega) h4 (by omega) h5 h6
    exact ⟨_, _, _, _, wt', e, IT_lf h1 r, hIC, Nat.le_trans (rF_drl fA_sz R hr) h3, ⟨by omega, by omega⟩, outp_le _ _ _ h6⟩
theorem m_dropR {sh : Nat} {kd kz : Nat → Nat} {ko : Nat → Int32} {q1 q2 q3 cp : Nat} {so ki : Nat → Nat} {nu : Nat → Int64} {no sp : Nat} {hn sl ah : Nat → Nat} {he fr bx rws ma isl inn atk : Nat} {ps : Nat → Int32} {g : Nat → Option am_E} {n m d r : Nat} {R : Nat → Fo} {fl : List Nat} {q : Ot} (hq : OKq q1 q2 q3) (h17 : 17 < q1 ∧ 17 < q2 ∧ 17 < q3) (hc : cp < 100000) (hS : s_ok sh kd kz ps) (hk : sh ≤ 24) (hK : ∀ i, i < 3 * sh → ko i = ps i) (hno : no ≤ cp) (h : RI sh kd ps so ki nu no sp bx rws q.2.1 R fl) (hr : r < 120) (hl : f_len (R r) = 1) {x : Nat} (hx : x = f_rt (R r) 0) :
    ∃ ki' sp' bx' rws' fl', ev (d + 516) 119 [.ref 18, .int (nI x)] (n, m, RO sh kd kz ko q1 q2 q3 cp so ki nu no sp hn sl ah he fr (q.1) (q.2.1) bx rws ma (q.2.2) isl inn atk g) = some (none, (n, m, RO sh kd kz ko q1 q2 q3 cp so (ki') nu no (sp') hn sl ah he fr ((dO kd q (R r)).1) ((dO kd q (R r)).2.1) (bx') (rws') ma ((dO kd q (R r)).2.2) isl inn atk g)) ∧ RI sh kd ps so ki' nu no sp' bx' rws' (dO kd q (R r)).2.1 (upN R r .leaf) fl' := by
  obtain ⟨h1, h2, ⟨h4, h5⟩, h3, h6⟩ := h
  subst hx
  obtain ⟨s, k, v, K, e0⟩ := f_one hl
  have hT := f_okT_ko hK (h1 r hr).2
  have hR := h2.1 r hr
  have cx := fun z => rF_ge (f_cx z) R hr
  have n4 := rF_ge (f_nk kd 4) R hr
  have n5 := rF_ge (f_nk kd 5) R hr
  have hsz := rF_ge f_sz R hr
  have d4 := rF_drp (fA_nk kd 4) R hr
  have d5 := rF_drp (fA_nk kd 5) R hr
  have hdr := fun (ki2 : Nat → Nat) (sp2 : Nat) (fl2 : List Nat) => IR1_drop (ki2 := ki2) (sp2 := sp2) (fl2 := fl2) h2 hr
  rw [e0] at hT hR cx n4 n5 hsz d4 d5 hdr ⊢
  have hh := f_h_sz K
  have hsz2 : f_sz (.inner s k v K .leaf) = 1 + f_sz K + 0 := rfl
  obtain ⟨ki', sp', fl', e, e1, e2, e3⟩ := m_drop (sh := sh) (kd := kd) (kz := kz) (ko := ko) (q1 := q1) (q2 := q2) (q3 := q3) (cp := cp) (so := so) (ki := ki) (nu := nu) (no := no) (sp := sp) (hn := hn) (sl := sl) (ah := ah) (he := he) (fr := fr) (ou := q.1) (tol := q.2.1) (bx := bx) (rws := rws) (ma := ma) (dpd := q.2.2) (isl := isl) (inn := inn) (atk := atk) (g := g) (n := n) (m := m) (d := d + 514 - f_h K) fl hq hc ⟨by omega, by omega, by omega⟩ hk (fun s hs => by have := (hS.2 s hs).1; omega) hT hR (fun z hz => by have := h2.2.2.1 z (by have := cx z; omega); omega) (fun z => by have := cx z; have := h2.2.1 z; omega) h2.2.2.2 (by omega) (by omega) h6
  rw [show d + 514 - f_h K + f_h K + 2 = d + 516 by omega] at e
  exact ⟨ki', sp', _, _, fl', e, IT_lf h1 r, hdr ki' sp' fl' e1 e2 e3, ⟨by omega, by omega⟩, Nat.le_trans (rF_drl fA_sz R hr) h3, outp_le _ _ _ h6⟩
/-- a root moved, class -/
theorem IC1_mv {kn : Nat} {ks zs : Nat → Nat} {ps : Nat → Int32} {ce ce2 : Nat → Int64} {bt rt rl : Nat → Nat} {nb nr : Nat} {R : Nat → Fo} (hS : s_ok kn ks zs ps) (hk : kn ≤ 24) (hT : IT kn ks ps R) (hC : IC1 ks zs ce bt rt rl nb nr R) {a b : Nat} (ha : a < 120) (hb : b < 120) (hab : a ≠ b) (h0 : R b = .leaf) (h1 : ∀ i, i < f_ext zs (R a) false → ce2 (8 * b + i) = ce (8 * a + i)) (h2 : ∀ p, p < 8 * b ∨ 8 * b + 8 ≤ p → ce2 p = ce p) : IC1 ks zs ce2 bt rt rl nb nr (mvR R a b) := by
  have b2 : ∀ j, bt j = 1 → ∀ i, i < 8 → ce2 (960 + j * 8 + i) = ce (960 + j * 8 + i) := fun j _ i _ => h2 _ (by omega)
  have b3 : ∀ j, rt j = 1 → rl j = rl j ∧ ∀ i, i < 64 → ce2 (1440 + j * 64 + i) = ce (1440 + j * 64 + i) := fun j _ => ⟨rfl, fun i _ => h2 _ (by omega)⟩
  refine ⟨fun r hr => ?_, fun j => ?_, fun j => ?_, ?_, ?_⟩
  · unfold mvR
    by_cases e : r = a
    · subst e; rw [upN_s]; trivial
    · rw [upN_n _ _ e]
      by_cases e2 : r = b
      · subst e2; rw [upN_s]; exact okC_to hS hk hT hC b2 b3 ha h1
      · rw [upN_n _ _ e2]; exact okC_oth hS hk hT hC b2 b3 hr (fun i hi => h2 _ (by omega))
  · rw [rF_mv (fA_cb ks 4 j) R ha hb hab h0]; exact hC.2.1 j
  · rw [rF_mv (fA_cb ks 5 j) R ha hb hab h0]; exact hC.2.2.1 j
  · rw [rF_mv (fA_nk ks 4) R ha hb hab h0]; exact hC.2.2.2.1
  · rw [rF_mv (fA_nk ks 5) R ha hb hab h0]; exact hC.2.2.2.2
theorem IR1_mv {so ki : Nat → Nat} {nu : Nat → Int64} {no sp : Nat} {R : Nat → Fo} {fl : List Nat} (h : IR1 so ki nu no sp R fl) {a b : Nat} (ha : a < 120) (hb : b < 120) (hab : a ≠ b) (h0 : R b = .leaf) : IR1 so ki nu no sp (mvR R a b) fl := by
  obtain ⟨h1, h2, h3, h4⟩ := h
  refine ⟨fun r hr => ?_, fun z => by rw [rF_mv (fA_cx z) R ha hb hab h0]; exact h2 z, fun z hz => h3 z (by rw [rF_mv (fA_cx z) R ha hb hab h0] at hz; exact hz), h4⟩
  unfold mvR
  by_cases e : r = a
  · subst e; rw [upN_s]; trivial
  · rw [upN_n _ _ e]
    by_cases e2 : r = b
    · subst e2; rw [upN_s]; exact h1 a ha
    · rw [upN_n _ _ e2]; exact h1 r hr
/-- the invariant, put together again -/
theorem ST_CR {c : Nat} {kn : Nat} {ks zs : Nat → Nat} {ps : Nat → Int32} {ce : Nat → Int64} {bt rt rl : Nat → Nat} {nb nr : Nat} {hsh hst : Nat → Nat} {ssh : Nat → Int32} {ih th oc : Nat} {ko : Nat → Int32} {q1 q2 q3 cp : Nat} {so ki : Nat → Nat} {nu : Nat → Int64} {no sp : Nat} {hn sl ah : Nat → Nat} {R : Nat → Fo} {fl : List Nat} (hI : ST c kn ks zs ps ce bt rt rl nb nr hsh hst ssh ih th oc ko q1 q2 q3 cp so ki nu no sp hn sl ah R fl) : CI kn ks zs ps ce bt rt rl nb nr oc R ∧ RI kn ks ps so ki nu no sp nb nr oc R fl ∨ 512 < c := by
  obtain ⟨⟨hS, hk⟩, hK, hF, hT, hL, hC, hR, hO, hBd, hQ, hcp⟩ := hI
  by_cases h : 512 < c
  · exact Or.inr h
  · exact Or.inl ⟨⟨hT, hC, by omega, hBd.2, hO⟩, hT, hR, ⟨hC.2.2.2.1, hC.2.2.2.2⟩, by omega, hO⟩
theorem ST_mk {c : Nat} {kn : Nat} {ks zs : Nat → Nat} {ps : Nat → Int32} {ce : Nat → Int64} {bt rt rl : Nat → Nat} {nb nr : Nat} {hsh hst : Nat → Nat} {ssh : Nat → Int32} {ih th oc : Nat} {ko : Nat → Int32} {q1 q2 q3 cp : Nat} {so ki : Nat → Nat} {nu : Nat → Int64} {no sp : Nat} {hn sl ah : Nat → Nat} {R R' : Nat → Fo} {fl fl' : List Nat} (hI : ST c kn ks zs ps ce bt rt rl nb nr hsh hst ssh ih th oc ko q1 q2 q3 cp so ki nu no sp hn sl ah R fl) {ce2 : Nat → Int64} {bt2 rt2 : Nat → Nat} {nb2 nr2 : Nat} {hsh2 hst2 : Nat → Nat} {ssh2 : Nat → Int32} {ih2 th2 oc2 : Nat} {ki2 : Nat → Nat} {sp2 : Nat} {hn2 sl2 ah2 : Nat → Nat} (h1 : CI kn ks zs ps ce2 bt2 rt2 rl nb2 nr2 oc2 R') (h2 : IR1 so ki2 nu no sp2 R' fl') (h3 : IFr ih2 th2 hst2 ah2) (h4 : IL ih2 th2 hsh2 ssh2 hn2 sl2 R') (h5 : rF f_sz R' ≤ rF f_sz R) : ST (c + 1) kn ks zs ps (ce2) (bt2) (rt2) rl (nb2) (nr2) (hsh2) (hst2) (ssh2) (ih2) (th2) (oc2) ko q1 q2 q3 cp so (ki2) nu no (sp2) (hn2) (sl2) (ah2) R' fl' := by
  obtain ⟨⟨hS, hk⟩, hK, hF, hT, hL, hC, hR, hO, hBd, hQ, hcp⟩ := hI
  exact ⟨⟨hS, hk⟩, hK, h3, h1.1, h4, h1.2.1, h2, h1.2.2.2.2, ⟨by omega, h1.2.2.2.1⟩, hQ, hcp.1, hcp.2.1, hcp.2.2.1, by omega⟩
/-- both sides free as many -/
theorem nb_eq {kn : Nat} {ks zs : Nat → Nat} {ps : Nat → Int32} {ce : Nat → Int64} {bt rt rl : Nat → Nat} {nb nr oc : Nat} {so ki : Nat → Nat} {nu : Nat → Int64} {no sp nb2 nr2 oc2 : Nat} {R : Nat → Fo} {fl : List Nat} (h1 : CI kn ks zs ps ce bt rt rl nb nr oc R) (h2 : RI kn ks ps so ki nu no sp nb2 nr2 oc2 R fl) : nb2 = nb ∧ nr2 = nr := by
  have := h1.2.1.2.2.2.1
  have := h1.2.1.2.2.2.2
  have := h2.2.2.1
  omega
theorem SS_mk1 {e0 : Option am_E} {d jc jr c n m : Nat} {a : List Value} {kn : Nat} {ks zs : Nat → Nat} {ps : Nat → Int32} {ce : Nat → Int64} {bt rt rl : Nat → Nat} {nb nr : Nat} {hsh hst : Nat → Nat} {ssh : Nat → Int32} {ih th : Nat} {wt : Nat → Nat} {os : Nat → Int64} {wn oc dr tm : Nat} {fa : Int32} {ko : Nat → Int32} {q1 q2 q3 cp : Nat} {so ki : Nat → Nat} {nu : Nat → Int64} {no sp : Nat} {hn sl ah : Nat → Nat} {isl inn atk : Nat} {kn' : Nat} {ks' zs' : Nat → Nat} {ps' : Nat → Int32} {ce' : Nat → Int64} {bt' rt' rl' : Nat → Nat} {nb' nr' : Nat} {hsh' hst' : Nat → Nat} {ssh' : Nat → Int32} {ih' th' : Nat} {wt' : Nat → Nat} {os' : Nat → Int64} {wn' oc' dr' tm' : Nat} {fa' : Int32} {ko' : Nat → Int32} {q1' q2' q3' cp' : Nat} {so' ki' : Nat → Nat} {nu' : Nat → Int64} {no' sp' : Nat} {hn' sl' ah' : Nat → Nat} {isl' inn' atk' : Nat} {g G0 G1 : Nat → Option am_E} {r : Value} (hoq : OKq q1 q2 q3) (hq : 17 < q1 ∧ 17 < q2 ∧ 17 < q3) (hg : g 0 = e0) (hG0 : RO kn ks zs ko q1 q2 q3 cp so ki nu no sp hn sl ah ih th os oc nb nr tm dr isl inn atk g = G0) (hG1 : CO kn' ks' zs' ps' ce' bt' rt' rl' nb' nr' hsh' hst' ssh' ih' th' wt' os' wn' oc' dr' tm' fa' g = G1)
    (e1 : ev d jc (.ref 1 :: a) (n, m, CO kn ks zs ps ce bt rt rl nb nr hsh hst ssh ih th wt os wn oc dr tm fa G0) = some (some r, (n, m, CO kn' ks' zs' ps' ce' bt' rt' rl' nb' nr' hsh' hst' ssh' ih' th' wt' os' wn' oc' dr' tm' fa' G0)))
    (e2 : ev d jr (.ref 18 :: a) (n, m, RO kn ks zs ko q1 q2 q3 cp so ki nu no sp hn sl ah ih th os oc nb nr tm dr isl inn atk G1) = some (some r, (n, m, RO kn' ks' zs' ko' q1' q2' q3' cp' so' ki' nu' no' sp' hn' sl' ah' ih' th' os' oc' nb' nr' tm' dr' isl' inn' atk' G1)))
    (hI : ∃ R fl, ST (c + 1) kn' ks' zs' ps' ce' bt' rt' rl' nb' nr' hsh' hst' ssh' ih' th' oc' ko' q1' q2' q3' cp' so' ki' nu' no' sp' hn' sl' ah' R fl) (hN' : NQ n q1' q2' q3') (hB : n ≤ 28 + 3 * (c + 1) ∧ m ≤ 20000 + 10260 * (c + 1)) (hkd : vkd jc r = true := by rfl) : SS e0 d jc jr a c (n, m, CO kn ks zs ps ce bt rt rl nb nr hsh hst ssh ih th wt os wn oc dr tm fa (RO kn ks zs ko q1 q2 q3 cp so ki nu no sp hn sl ah ih th os oc nb nr tm dr isl inn atk g)) := by
  subst hG0 hG1
  obtain ⟨R, fl, hI⟩ := hI
  have hq' := hI.2.2.2.2.2.2.2.2.2.1.2
  refine ⟨r, _, (n, m, RO kn' ks' zs' ko' q1' q2' q3' cp' so' ki' nu' no' sp' hn' sl' ah' ih' th' os' oc' nb' nr' tm' dr' isl' inn' atk' (CO kn' ks' zs' ps' ce' bt' rt' rl' nb' nr' hsh' hst' ssh' ih' th' wt' os' wn' oc' dr' tm' fa' g)), ⟨e1, by rw [CO_RO hq]; exact c_cl_5 hoq, hkd, by dsimp only; rw [CO_hi (Or.inr rfl), RO_lo hq (by omega), hg]⟩, ?_, ?_⟩
  · rw [CO_RO hq]
    exact e2
  · refine ⟨kn', ks', zs', ps', ce', bt', rt', rl', nb', nr', hsh', hst', ssh', ih', th', wt', os', wn', oc', dr', tm', fa', ko', q1', q2', q3', cp', so', ki', nu', no', sp', hn', sl', ah', isl', inn', atk', R, fl, g, n, m, ?_, hI, hN', hB, hg⟩
    rw [CO_RO hq']
theorem s_drop {e0 : Option am_E} {d c n m : Nat} {kn : Nat} {ks zs : Nat → Nat} {ps : Nat → Int32} {ce : Nat → Int64} {bt rt rl : Nat → Nat} {nb nr : Nat} {hsh hst : Nat → Nat} {ssh : Nat → Int32} {ih th : Nat} {wt : Nat → Nat} {os : Nat → Int64} {wn oc dr tm : Nat} {fa : Int32} {ko : Nat → Int32} {q1 q2 q3 cp : Nat} {so ki : Nat → Nat} {nu : Nat → Int64} {no sp : Nat} {hn sl ah : Nat → Nat} {isl inn atk : Nat} {g : Nat → Option am_E} {R : Nat → Fo} {fl : List Nat} (hI : ST c kn ks zs ps ce bt rt rl nb nr hsh hst ssh ih th oc ko q1 q2 q3 cp so ki nu no sp hn sl ah R fl) (hN : NQ n q1 q2 q3) (hg : g 0 = e0) (hB : n ≤ 28 + 3 * c ∧ m ≤ 20000 + 10260 * c) (hc5 : c < 512) : SS e0 (d + 600) 70 133 [] c (n, m, CO kn ks zs ps ce bt rt rl nb nr hsh hst ssh ih th wt os wn oc dr tm fa (RO kn ks zs ko q1 q2 q3 cp so ki nu no sp hn sl ah ih th os oc nb nr tm dr isl inn atk g)) := by
  obtain ⟨⟨hS, hk⟩, hK, hF, hT, hL, hC, hR, hO, hBd, ⟨hq, hq17⟩, hcp⟩ := id hI
  have hB1 : n ≤ 28 + 3 * (c + 1) ∧ m ≤ 20000 + 10260 * (c + 1) := ⟨by omega, by omega⟩
  obtain ⟨⟨f1, f2⟩, f3, f4, f5, f6, f7⟩ := id hF
  obtain ⟨b0, hb0⟩ : ∃ b0, hst (th - 1) = b0 := ⟨_, rfl⟩
  have hb3 : b0 ≤ ih := by rw [← hb0]; exact f6
  have ha0 : ah th = b0 := by rw [← hb0, ← f7 (th - 1) (by omega), Nat.sub_add_cancel f1]
  have hb4 : ah th ≤ ih := by rw [ha0]; exact hb3
  have f0 : 0 < th := f1
  have f13 : th < 13 := by omega
  by_cases hb1 : b0 = ih
  · subst hb1
    exact SS_mk (hoq := hq) (kn' := kn) (ks' := ks) (zs' := zs) (ps' := ps) (ce' := ce) (bt' := bt) (rt' := rt) (rl' := rl) (nb' := nb) (nr' := nr) (hsh' := hsh) (hst' := hst) (ssh' := ssh) (ih' := b0) (th' := th) (wt' := wt) (os' := os) (wn' := wn) (oc' := oc) (dr' := dr) (tm' := tm) (fa' := fa) (ko' := ko) (q1' := q1) (q2' := q2) (q3' := q3) (cp' := cp) (so' := so) (ki' := ki) (nu' := nu) (no' := no) (sp' := sp) (hn' := hn) (sl' := sl) (ah' := ah) (isl' := isl) (inn' := inn) (atk' := atk) (n' := n) (m' := m) hq17 hN hg (r := .int mI) (fun G => by simp (disch := first | exact q_two_i _ | exact q_two_r _ | exact q_two_n | exact q_sh0 | exact q_sh1 _ | exact q_sh2 _ _ | exact q_sh3 _ _ _ | exact q_sh4 _ _ _ _ | exact c_cl_0 .. | exact c_cl_1 .. | exact c_cl_2 .. | exact c_cl_3 .. | exact c_cl_4 .. | exact c_tc_4_4 _ | exact c_tc_4_5 _ | exact c_tc_3_3 _ | exact c_tc_2_4 _ | exact c_tc_2_5 _ | exact c_tc_1_3 _ | exact c_tc_1_4 _ | exact c_tc_0_4 _ | exact c_tc_0_5 _ | exact c_tc_0_6 _ | exact z_01 | exact z_11 | exact nz_24 | exact nz_16 | assumption | omega) only [eB4_drop, x_aload_0, x_getf, c_gf_4_2, x_iv_0, x_kx1, x_kx0, x_istore_1, x_iload_1, x_iconst, x_ic_ne, x_ret_i, c_gf_4_3, x_iv_2, x_iv_1, jB4_drop_15, uB4_drop_0, uB4_drop_15, n_0, n_1, n_2, n_3, n_4, n_5, n_6, n_7, n_8, n_9, n_10, n_12, n_13, n_15, n_16, n_20, n_24, n_60, n_64, n_72, n_96, n_192, n_256, n_400, n_808, n_960, n_1440, n_2048, n_2720, n_16777215, n_1000000, l_0, l_1, l_8, l_20, l_60, l_lt_t, l_lt_f, l_ge_t, l_ge_f, l_eq_t, l_eq_f, lN_i, nI_l, i_lt_t, i_lt_f, i_le_t, i_le_f, i_eq_t, i_eq_f, ↓n_m1, ↓n_m2, i_m1, i_m1s, i_m1lt, i_m1le, i_m1l2, i_m1l3, i_mm, nI_add, pk_mul, i_sub, i_dec, i_dec0, i_s01, i_div, Nat.reduceAdd, Nat.reduceSub, Nat.reduceMul, Nat.zero_add, if_true, if_false, not_true, not_false_eq_true, ↓reduceIte, c_top0]) (fun G => ⟨G, by simp (disch := first | exact q_two_i _ | exact q_two_r _ | exact q_two_n | exact q_sh0 | exact q_sh1 _ | exact q_sh2 _ _ | exact q_sh3 _ _ _ | exact q_sh4 _ _ _ _ | exact c_cl_5 hq | exact c_tc_5_3 _ | exact c_tc_5_7 _ | exact c_tc_5_8 _ | exact c_tc_5_12 _ | exact c_tc_5_13 _ | exact c_tc_5_15 _ | exact c_tc_5_16 _ | exact c_tc_5_17 _ | exact c_tc_5_18 _ | exact c_tc_5_19 _ | exact c_tc_5_21 _ | exact c_tc_5_22 _ | exact c_tc_5_20a | exact c_tc_5_20b | exact z_01 | exact z_11 | exact nz_24 | exact nz_16 | assumption | omega) only [eB5_drop, x_aload_0, x_iv_0, x_kx1, x_kx0, x_iconst, x_ic_ge, x_ret_i, x_dup_int, x_dup_ref, x_getf, c_gf_5_12, x_isub, x_putf, c_pf_5_12, c_gf_5_9, x_iaload, x_iv_1, jB5_drop_10, uB5_drop_0, uB5_drop_10, n_0, n_1, n_2, n_3, n_4, n_5, n_6, n_7, n_8, n_9, n_10, n_12, n_13, n_15, n_16, n_20, n_24, n_60, n_64, n_72, n_96, n_192, n_256, n_400, n_808, n_960, n_1440, n_2048, n_2720, n_16777215, n_1000000, l_0, l_1, l_8, l_20, l_60, l_lt_t, l_lt_f, l_ge_t, l_ge_f, l_eq_t, l_eq_f, lN_i, nI_l, i_lt_t, i_lt_f, i_le_t, i_le_f, i_eq_t, i_eq_f, ↓n_m1, ↓n_m2, i_m1, i_m1s, i_m1lt, i_m1le, i_m1l2, i_m1l3, i_mm, nI_add, pk_mul, i_sub, i_dec, i_dec0, i_s01, i_div, Nat.reduceAdd, Nat.reduceSub, Nat.reduceMul, Nat.zero_add, if_true, if_false, not_true, not_false_eq_true, ↓reduceIte, hq, m_mine, ha0, Nat.sub_self], fun _ _ _ _ _ => rfl⟩) ⟨R, fl, ST_mono hI⟩ hN hB1
  have hb5 : b0 < ih := by omega
  have hge : 1 ≤ ih := by omega
  obtain ⟨s1, x1, j1, v1, K1, a1, ⟨a2, a3⟩, ⟨a4, a5, a6⟩, a7, a8, a9, a10⟩ := h_top hI (r := ih - 1) (by omega)
  have s24 : s1 < 24 := by omega
  rcases ST_CR hI with ⟨hCI, hRI⟩ | h
  rotate_left
  · omega
  have hr : ih - 1 < 120 := by omega
  have hx : nI s1 = s_slot (R (ih - 1)) := by rw [a1]; rfl
  have hxr : x1 = f_rt (R (ih - 1)) 0 := by rw [a1]; rfl
  have hl1 : f_len (R (ih - 1)) = 1 := by rw [a1]; rfl
  obtain ⟨G0, hG0⟩ : ∃ G0, RO kn ks zs ko q1 q2 q3 cp so ki nu no sp hn sl ah ih th os oc nb nr tm dr isl inn atk g = G0 := ⟨_, rfl⟩
  obtain ⟨bt', rt', nb', nr', wt', e1, hCI'⟩ := c_dropR (kn := kn) (ks := ks) (zs := zs) (ps := ps) (ce := ce) (bt := bt) (rt := rt) (rl := rl) (nb := nb) (nr := nr) (hsh := hsh) (hst := hst) (ssh := ssh) (ih := ih) (th := th) (wt := wt) (wn := wn) (tm := tm) (fa := fa) (q := (os, oc, dr)) (g := G0) (n := n) (m := m) (d := d + 593) hS hk hCI hr hx (show (ih - 1) * 8 = 8 * (ih - 1) by omega)
  obtain ⟨q', hq'⟩ : ∃ q', dO ks (os, oc, dr) (R (ih - 1)) = q' := ⟨_, rfl⟩
  obtain ⟨G1, hG1⟩ : ∃ G1, CO kn ks zs ps ce (bt') (rt') rl (nb') (nr') hsh hst ssh (ih - 1) th (wt') (q'.1) (0) (q'.2.1) (q'.2.2) tm fa g = G1 := ⟨_, rfl⟩
  obtain ⟨ki', sp', bx', rws', fl', e2, hRI'⟩ := m_dropR (sh := kn) (kd := ks) (kz := zs) (ko := ko) (q1 := q1) (q2 := q2) (q3 := q3) (cp := cp) (so := so) (ki := ki) (nu := nu) (no := no) (sp := sp) (hn := hn) (sl := sl) (ah := ah) (he := ih - 1) (fr := th) (bx := nb) (rws := nr) (ma := tm) (isl := isl) (inn := inn) (atk := atk) (q := (os, oc, dr)) (g := G1) (n := n) (m := m) (d := d + 83) hq hq17 hcp.1 hS hk hK hcp.2.2.1 hRI hr hl1 hxr
  obtain ⟨rfl, rfl⟩ := nb_eq hCI' hRI'
  rw [hq'] at e1 e2 hCI' hRI'
  dsimp only at e1 e2
  exact SS_mk1 (hoq := hq) (kn' := kn) (ks' := ks) (zs' := zs) (ps' := ps) (ce' := ce) (bt' := bt') (rt' := rt') (rl' := rl) (nb' := bx') (nr' := rws') (hsh' := hsh) (hst' := hst) (ssh' := ssh) (ih' := ih - 1) (th' := th) (wt' := wt') (os' := q'.1) (wn' := 0) (oc' := q'.2.1) (dr' := q'.2.2) (tm' := tm) (fa' := fa) (ko' := ko) (q1' := q1) (q2' := q2) (q3' := q3) (cp' := cp) (so' := so) (ki' := ki') (nu' := nu) (no' := no) (sp' := sp') (hn' := hn) (sl' := sl) (ah' := ah) (isl' := isl) (inn' := inn) (atk' := atk) hq17 hg hG0 hG1 (r := .int (nI 1)) (by simp (disch := first | exact q_two_i _ | exact q_two_r _ | exact q_two_n | exact q_sh0 | exact q_sh1 _ | exact q_sh2 _ _ | exact q_sh3 _ _ _ | exact q_sh4 _ _ _ _ | exact c_cl_0 .. | exact c_cl_1 .. | exact c_cl_2 .. | exact c_cl_3 .. | exact c_cl_4 .. | exact c_tc_4_4 _ | exact c_tc_4_5 _ | exact c_tc_3_3 _ | exact c_tc_2_4 _ | exact c_tc_2_5 _ | exact c_tc_1_3 _ | exact c_tc_1_4 _ | exact c_tc_0_4 _ | exact c_tc_0_5 _ | exact c_tc_0_6 _ | exact z_01 | exact z_11 | exact nz_24 | exact nz_16 | assumption | omega) only [eB4_drop, x_aload_0, x_getf, c_gf_4_2, x_iv_0, x_kx1, x_kx0, x_istore_1, x_iload_1, x_iconst, x_ic_ne, x_ret_i, c_gf_4_3, x_iv_2, x_iv_1, jB4_drop_15, uB4_drop_0, uB4_drop_15, n_0, n_1, n_2, n_3, n_4, n_5, n_6, n_7, n_8, n_9, n_10, n_12, n_13, n_15, n_16, n_20, n_24, n_60, n_64, n_72, n_96, n_192, n_256, n_400, n_808, n_960, n_1440, n_2048, n_2720, n_16777215, n_1000000, l_0, l_1, l_8, l_20, l_60, l_lt_t, l_lt_f, l_ge_t, l_ge_f, l_eq_t, l_eq_f, lN_i, nI_l, i_lt_t, i_lt_f, i_le_t, i_le_f, i_eq_t, i_eq_f, ↓n_m1, ↓n_m2, i_m1, i_m1s, i_m1lt, i_m1le, i_m1l2, i_m1l3, i_mm, nI_add, pk_mul, i_sub, i_dec, i_dec0, i_s01, i_div, Nat.reduceAdd, Nat.reduceSub, Nat.reduceMul, Nat.zero_add, if_true, if_false, not_true, not_false_eq_true, ↓reduceIte, c_top, a2, e1, c_tAt, c_off]) (by simp (disch := first | exact q_two_i _ | exact q_two_r _ | exact q_two_n | exact q_sh0 | exact q_sh1 _ | exact q_sh2 _ _ | exact q_sh3 _ _ _ | exact q_sh4 _ _ _ _ | exact c_cl_5 hq | exact c_tc_5_3 _ | exact c_tc_5_7 _ | exact c_tc_5_8 _ | exact c_tc_5_12 _ | exact c_tc_5_13 _ | exact c_tc_5_15 _ | exact c_tc_5_16 _ | exact c_tc_5_17 _ | exact c_tc_5_18 _ | exact c_tc_5_19 _ | exact c_tc_5_21 _ | exact c_tc_5_22 _ | exact c_tc_5_20a | exact c_tc_5_20b | exact z_01 | exact z_11 | exact nz_24 | exact nz_16 | assumption | omega) only [eB5_drop, x_aload_0, x_iv_0, x_kx1, x_kx0, x_iconst, x_ic_ge, x_ret_i, x_dup_int, x_dup_ref, x_getf, c_gf_5_12, x_isub, x_putf, c_pf_5_12, c_gf_5_9, x_iaload, x_iv_1, jB5_drop_10, uB5_drop_0, uB5_drop_10, n_0, n_1, n_2, n_3, n_4, n_5, n_6, n_7, n_8, n_9, n_10, n_12, n_13, n_15, n_16, n_20, n_24, n_60, n_64, n_72, n_96, n_192, n_256, n_400, n_808, n_960, n_1440, n_2048, n_2720, n_16777215, n_1000000, l_0, l_1, l_8, l_20, l_60, l_lt_t, l_lt_f, l_ge_t, l_ge_f, l_eq_t, l_eq_f, lN_i, nI_l, i_lt_t, i_lt_f, i_le_t, i_le_f, i_eq_t, i_eq_f, ↓n_m1, ↓n_m2, i_m1, i_m1s, i_m1lt, i_m1le, i_m1l2, i_m1l3, i_mm, nI_add, pk_mul, i_sub, i_dec, i_dec0, i_s01, i_div, Nat.reduceAdd, Nat.reduceSub, Nat.reduceMul, Nat.zero_add, if_true, if_false, not_true, not_false_eq_true, ↓reduceIte, hq, m_mine, ha0, c_g_25, a3, e2]) ⟨_, fl', ST_mk hI hCI' hRI'.2.1 ⟨⟨f1, f2⟩, by omega, f4, f5, by omega, f7⟩ ⟨fun r hr' => by
    by_cases e : r = ih - 1
    · subst e; rw [upN_s]; simp only [f_len]; omega
    · rw [upN_n _ _ e, hL.1 r hr']; omega, fun r h h' => by rw [upN_n _ _ (by omega)]; exact hL.2.1 r h h', fun r hr' => by rw [upN_n _ _ (by omega)]; exact hL.2.2.1 r (by omega), fun j hj => by rw [upN_n _ _ (by omega)]; exact hL.2.2.2 j hj⟩ (rF_drl fA_sz R hr)⟩ hN hB1
