/-! The reference's places: 18 CellYardModel, 19 kind, 20 size, 21 of, 25 hand, 26 slots, 27 ahead, 28 outs; shapeOf, kids, num at q1, q2, q3 (new ones when it grows). -/
def OKq (q1 q2 q3 : Nat) : Prop := (q1 ≠ q2 ∧ q1 ≠ q3 ∧ q2 ≠ q3) ∧ ∀ p, p ∈ [18, 19, 20, 21, 25, 26, 27, 28] → p ≠ q1 ∧ p ≠ q2 ∧ p ≠ q3
def ovl (q1 q2 q3 : Nat) (a b c : Option am_E) (f : Nat → Option am_E) : Nat → Option am_E := fun p => if p = q1 then a else if p = q2 then b else if p = q3 then c else f p
def RF (sh : Nat) (kd kz : Nat → Nat) (ko : Nat → Int32) (q1 q2 q3 cp : Nat) (so ki : Nat → Nat) (nu : Nat → Int64) (no sp : Nat) (hn sl ah : Nat → Nat) (he fr : Nat) (ou : Nat → Int64) (tol bx rws ma dpd isl inn atk : Nat) (g : Nat → Option am_E) : Nat → Option am_E := fun p => match p with
  | 18 => some (.inr (5, [.ref 19, .ref 20, .ref 21, .int (nI sh), .ref q1, .ref q2, .ref q3, .int (nI no), .int (nI sp), .ref 25, .ref 26, .ref 27, .int (nI he), .int (nI fr), .ref 28, .int (nI tol), .int (nI bx), .int (nI rws), .int (nI ma), .int (nI dpd), .int (nI isl), .int (nI inn), .int (nI atk)]))
  | 19 => some (.inl (.int, 24, .inl (fun j => nI (kd j))))
  | 20 => some (.inl (.int, 24, .inl (fun j => nI (kz j))))
  | 21 => some (.inl (.int, 72, .inl ko))
  | 25 => some (.inl (.int, 24, .inl (fun j => nI (hn j))))
  | 26 => some (.inl (.int, 96, .inl (fun j => nI (sl j))))
  | 27 => some (.inl (.int, 13, .inl (fun j => nI (ah j))))
  | 28 => some (.inl (.long, 400, .inr (.inl ou)))
  | k => g k
def RO (sh : Nat) (kd kz : Nat → Nat) (ko : Nat → Int32) (q1 q2 q3 cp : Nat) (so ki : Nat → Nat) (nu : Nat → Int64) (no sp : Nat) (hn sl ah : Nat → Nat) (he fr : Nat) (ou : Nat → Int64) (tol bx rws ma dpd isl inn atk : Nat) (g : Nat → Option am_E) : Nat → Option am_E := ovl q1 q2 q3 (some (.inl (.int, cp, .inl (fun j => nI (so j))))) (some (.inl (.int, 8 * cp, .inl (fun j => nI (ki j))))) (some (.inl (.long, cp, .inr (.inl nu)))) (RF sh kd kz ko q1 q2 q3 cp so ki nu no sp hn sl ah he fr ou tol bx rws ma dpd isl inn atk g)
theorem ovl_at {q1 q2 q3 p : Nat} {a b c : Option am_E} {f : Nat → Option am_E} (h : p ≠ q1 ∧ p ≠ q2 ∧ p ≠ q3) : ovl q1 q2 q3 a b c f p = f p := by simp [ovl, h.1, h.2.1, h.2.2]
theorem ovl_1 {q1 q2 q3 : Nat} {a b c : Option am_E} {f : Nat → Option am_E} : ovl q1 q2 q3 a b c f q1 = a := by simp [ovl]
theorem ovl_2 {q1 q2 q3 : Nat} {a b c : Option am_E} {f : Nat → Option am_E} (h : OKq q1 q2 q3) : ovl q1 q2 q3 a b c f q2 = b := by simp [ovl, Ne.symm h.1.1]
theorem ovl_3 {q1 q2 q3 : Nat} {a b c : Option am_E} {f : Nat → Option am_E} (h : OKq q1 q2 q3) : ovl q1 q2 q3 a b c f q3 = c := by simp [ovl, Ne.symm h.1.2.1, Ne.symm h.1.2.2]
theorem ovl_up {q1 q2 q3 p0 : Nat} {a b c : Option am_E} {f f2 : Nat → Option am_E} {e : am_E} (h : p0 ≠ q1 ∧ p0 ≠ q2 ∧ p0 ≠ q3) (h0 : f2 p0 = some e) (h1 : ∀ p, p ≠ p0 → f2 p = f p) : (fun k => if k = p0 then some e else ovl q1 q2 q3 a b c f k) = ovl q1 q2 q3 a b c f2 := by
  funext k
  by_cases hk : k = p0
  · subst hk; rw [if_pos rfl, ovl_at h, h0]
  · rw [if_neg hk]
    simp only [ovl, h1 k hk]
theorem ovl_u1 {q1 q2 q3 : Nat} {a b c : Option am_E} {f : Nat → Option am_E} {e : am_E} : (fun k => if k = q1 then some e else ovl q1 q2 q3 a b c f k) = ovl q1 q2 q3 (some e) b c f := by
  funext k
  by_cases hk : k = q1 <;> simp [ovl, hk]
theorem ovl_u2 {q1 q2 q3 : Nat} {a b c : Option am_E} {f : Nat → Option am_E} {e : am_E} (h : OKq q1 q2 q3) : (fun k => if k = q2 then some e else ovl q1 q2 q3 a b c f k) = ovl q1 q2 q3 a (some e) c f := by
  funext k
  by_cases hk : k = q2
  · subst hk; simp [ovl, Ne.symm h.1.1]
  · simp [ovl, hk]
theorem ovl_u3 {q1 q2 q3 : Nat} {a b c : Option am_E} {f : Nat → Option am_E} {e : am_E} (h : OKq q1 q2 q3) : (fun k => if k = q3 then some e else ovl q1 q2 q3 a b c f k) = ovl q1 q2 q3 a b (some e) f := by
  funext k
  by_cases hk : k = q3
  · subst hk; simp [ovl, Ne.symm h.1.2.1, Ne.symm h.1.2.2]
  · simp [ovl, hk]
theorem RO_18 {sh : Nat} {kd kz : Nat → Nat} {ko : Nat → Int32} {q1 q2 q3 cp : Nat} {so ki : Nat → Nat} {nu : Nat → Int64} {no sp : Nat} {hn sl ah : Nat → Nat} {he fr : Nat} {ou : Nat → Int64} {tol bx rws ma dpd isl inn atk : Nat} {g : Nat → Option am_E} (hq : OKq q1 q2 q3) : RO sh kd kz ko q1 q2 q3 cp so ki nu no sp hn sl ah he fr ou tol bx rws ma dpd isl inn atk g 18 = some (.inr (5, [.ref 19, .ref 20, .ref 21, .int (nI sh), .ref q1, .ref q2, .ref q3, .int (nI no), .int (nI sp), .ref 25, .ref 26, .ref 27, .int (nI he), .int (nI fr), .ref 28, .int (nI tol), .int (nI bx), .int (nI rws), .int (nI ma), .int (nI dpd), .int (nI isl), .int (nI inn), .int (nI atk)])) := by
  unfold RO
  rw [ovl_at (hq.2 18 (by decide))]
  rfl
theorem RO_19 {sh : Nat} {kd kz : Nat → Nat} {ko : Nat → Int32} {q1 q2 q3 cp : Nat} {so ki : Nat → Nat} {nu : Nat → Int64} {no sp : Nat} {hn sl ah : Nat → Nat} {he fr : Nat} {ou : Nat → Int64} {tol bx rws ma dpd isl inn atk : Nat} {g : Nat → Option am_E} (hq : OKq q1 q2 q3) : RO sh kd kz ko q1 q2 q3 cp so ki nu no sp hn sl ah he fr ou tol bx rws ma dpd isl inn atk g 19 = some (.inl (.int, 24, .inl (fun j => nI (kd j)))) := by
  unfold RO
  rw [ovl_at (hq.2 19 (by decide))]
  rfl
theorem RO_20 {sh : Nat} {kd kz : Nat → Nat} {ko : Nat → Int32} {q1 q2 q3 cp : Nat} {so ki : Nat → Nat} {nu : Nat → Int64} {no sp : Nat} {hn sl ah : Nat → Nat} {he fr : Nat} {ou : Nat → Int64} {tol bx rws ma dpd isl inn atk : Nat} {g : Nat → Option am_E} (hq : OKq q1 q2 q3) : RO sh kd kz ko q1 q2 q3 cp so ki nu no sp hn sl ah he fr ou tol bx rws ma dpd isl inn atk g 20 = some (.inl (.int, 24, .inl (fun j => nI (kz j)))) := by
  unfold RO
  rw [ovl_at (hq.2 20 (by decide))]
  rfl
theorem RO_21 {sh : Nat} {kd kz : Nat → Nat} {ko : Nat → Int32} {q1 q2 q3 cp : Nat} {so ki : Nat → Nat} {nu : Nat → Int64} {no sp : Nat} {hn sl ah : Nat → Nat} {he fr : Nat} {ou : Nat → Int64} {tol bx rws ma dpd isl inn atk : Nat} {g : Nat → Option am_E} (hq : OKq q1 q2 q3) : RO sh kd kz ko q1 q2 q3 cp so ki nu no sp hn sl ah he fr ou tol bx rws ma dpd isl inn atk g 21 = some (.inl (.int, 72, .inl ko)) := by
  unfold RO
  rw [ovl_at (hq.2 21 (by decide))]
  rfl
theorem RO_25 {sh : Nat} {kd kz : Nat → Nat} {ko : Nat → Int32} {q1 q2 q3 cp : Nat} {so ki : Nat → Nat} {nu : Nat → Int64} {no sp : Nat} {hn sl ah : Nat → Nat} {he fr : Nat} {ou : Nat → Int64} {tol bx rws ma dpd isl inn atk : Nat} {g : Nat → Option am_E} (hq : OKq q1 q2 q3) : RO sh kd kz ko q1 q2 q3 cp so ki nu no sp hn sl ah he fr ou tol bx rws ma dpd isl inn atk g 25 = some (.inl (.int, 24, .inl (fun j => nI (hn j)))) := by
  unfold RO
  rw [ovl_at (hq.2 25 (by decide))]
  rfl
theorem RO_26 {sh : Nat} {kd kz : Nat → Nat} {ko : Nat → Int32} {q1 q2 q3 cp : Nat} {so ki : Nat → Nat} {nu : Nat → Int64} {no sp : Nat} {hn sl ah : Nat → Nat} {he fr : Nat} {ou : Nat → Int64} {tol bx rws ma dpd isl inn atk : Nat} {g : Nat → Option am_E} (hq : OKq q1 q2 q3) : RO sh kd kz ko q1 q2 q3 cp so ki nu no sp hn sl ah he fr ou tol bx rws ma dpd isl inn atk g 26 = some (.inl (.int, 96, .inl (fun j => nI (sl j)))) := by
  unfold RO
  rw [ovl_at (hq.2 26 (by decide))]
  rfl
theorem RO_27 {sh : Nat} {kd kz : Nat → Nat} {ko : Nat → Int32} {q1 q2 q3 cp : Nat} {so ki : Nat → Nat} {nu : Nat → Int64} {no sp : Nat} {hn sl ah : Nat → Nat} {he fr : Nat} {ou : Nat → Int64} {tol bx rws ma dpd isl inn atk : Nat} {g : Nat → Option am_E} (hq : OKq q1 q2 q3) : RO sh kd kz ko q1 q2 q3 cp so ki nu no sp hn sl ah he fr ou tol bx rws ma dpd isl inn atk g 27 = some (.inl (.int, 13, .inl (fun j => nI (ah j)))) := by
  unfold RO
  rw [ovl_at (hq.2 27 (by decide))]
  rfl
theorem RO_28 {sh : Nat} {kd kz : Nat → Nat} {ko : Nat → Int32} {q1 q2 q3 cp : Nat} {so ki : Nat → Nat} {nu : Nat → Int64} {no sp : Nat} {hn sl ah : Nat → Nat} {he fr : Nat} {ou : Nat → Int64} {tol bx rws ma dpd isl inn atk : Nat} {g : Nat → Option am_E} (hq : OKq q1 q2 q3) : RO sh kd kz ko q1 q2 q3 cp so ki nu no sp hn sl ah he fr ou tol bx rws ma dpd isl inn atk g 28 = some (.inl (.long, 400, .inr (.inl ou))) := by
  unfold RO
  rw [ovl_at (hq.2 28 (by decide))]
  rfl
theorem c_cl_5 {sh : Nat} {kd kz : Nat → Nat} {ko : Nat → Int32} {q1 q2 q3 cp : Nat} {so ki : Nat → Nat} {nu : Nat → Int64} {no sp : Nat} {hn sl ah : Nat → Nat} {he fr : Nat} {ou : Nat → Int64} {tol bx rws ma dpd isl inn atk : Nat} {g : Nat → Option am_E} {n m : Nat} (hq : OKq q1 q2 q3) : am_cl (n, m, RO sh kd kz ko q1 q2 q3 cp so ki nu no sp hn sl ah he fr ou tol bx rws ma dpd isl inn atk g) 18 = some 5 := by
  show (match RO sh kd kz ko q1 q2 q3 cp so ki nu no sp hn sl ah he fr ou tol bx rws ma dpd isl inn atk g 18 with | some (.inr (c, _)) => some c | _ => none) = _
  rw [RO_18 hq]
theorem c_gf_5_0 {sh : Nat} {kd kz : Nat → Nat} {ko : Nat → Int32} {q1 q2 q3 cp : Nat} {so ki : Nat → Nat} {nu : Nat → Int64} {no sp : Nat} {hn sl ah : Nat → Nat} {he fr : Nat} {ou : Nat → Int64} {tol bx rws ma dpd isl inn atk : Nat} {g : Nat → Option am_E} {n m : Nat} (hq : OKq q1 q2 q3) : am_gf (n, m, RO sh kd kz ko q1 q2 q3 cp so ki nu no sp hn sl ah he fr ou tol bx rws ma dpd isl inn atk g) 18 5 0 = some (.ref 19) := by
  show (match RO sh kd kz ko q1 q2 q3 cp so ki nu no sp hn sl ah he fr ou tol bx rws ma dpd isl inn atk g 18 with | some (.inr (c', fs)) => if c' = 5 then fs[0]? else none | _ => none) = _
  rw [RO_18 hq]
  rfl
theorem c_gf_5_1 {sh : Nat} {kd kz : Nat → Nat} {ko : Nat → Int32} {q1 q2 q3 cp : Nat} {so ki : Nat → Nat} {nu : Nat → Int64} {no sp : Nat} {hn sl ah : Nat → Nat} {he fr : Nat} {ou : Nat → Int64} {tol bx rws ma dpd isl inn atk : Nat} {g : Nat → Option am_E} {n m : Nat} (hq : OKq q1 q2 q3) : am_gf (n, m, RO sh kd kz ko q1 q2 q3 cp so ki nu no sp hn sl ah he fr ou tol bx rws ma dpd isl inn atk g) 18 5 1 = some (.ref 20) := by
  show (match RO sh kd kz ko q1 q2 q3 cp so ki nu no sp hn sl ah he fr ou tol bx rws ma dpd isl inn atk g 18 with | some (.inr (c', fs)) => if c' = 5 then fs[1]? else none | _ => none) = _
  rw [RO_18 hq]
  rfl
theorem c_gf_5_2 {sh : Nat} {kd kz : Nat → Nat} {ko : Nat → Int32} {q1 q2 q3 cp : Nat} {so ki : Nat → Nat} {nu : Nat → Int64} {no sp : Nat} {hn sl ah : Nat → Nat} {he fr : Nat} {ou : Nat → Int64} {tol bx rws ma dpd isl inn atk : Nat} {g : Nat → Option am_E} {n m : Nat} (hq : OKq q1 q2 q3) : am_gf (n, m, RO sh kd kz ko q1 q2 q3 cp so ki nu no sp hn sl ah he fr ou tol bx rws ma dpd isl inn atk g) 18 5 2 = some (.ref 21) := by
  show (match RO sh kd kz ko q1 q2 q3 cp so ki nu no sp hn sl ah he fr ou tol bx rws ma dpd isl inn atk g 18 with | some (.inr (c', fs)) => if c' = 5 then fs[2]? else none | _ => none) = _
  rw [RO_18 hq]
  rfl
theorem c_gf_5_3 {sh : Nat} {kd kz : Nat → Nat} {ko : Nat → Int32} {q1 q2 q3 cp : Nat} {so ki : Nat → Nat} {nu : Nat → Int64} {no sp : Nat} {hn sl ah : Nat → Nat} {he fr : Nat} {ou : Nat → Int64} {tol bx rws ma dpd isl inn atk : Nat} {g : Nat → Option am_E} {n m : Nat} (hq : OKq q1 q2 q3) : am_gf (n, m, RO sh kd kz ko q1 q2 q3 cp so ki nu no sp hn sl ah he fr ou tol bx rws ma dpd isl inn atk g) 18 5 3 = some (.int (nI sh)) := by
  show (match RO sh kd kz ko q1 q2 q3 cp so ki nu no sp hn sl ah he fr ou tol bx rws ma dpd isl inn atk g 18 with | some (.inr (c', fs)) => if c' = 5 then fs[3]? else none | _ => none) = _
  rw [RO_18 hq]
  rfl
theorem c_tc_5_3 (x : Int32) : am_tc (am_ty 5 3) (.int x) = true := q_tci x
theorem c_pf_5_3 {sh : Nat} {kd kz : Nat → Nat} {ko : Nat → Int32} {q1 q2 q3 cp : Nat} {so ki : Nat → Nat} {nu : Nat → Int64} {no sp : Nat} {hn sl ah : Nat → Nat} {he fr : Nat} {ou : Nat → Int64} {tol bx rws ma dpd isl inn atk : Nat} {g : Nat → Option am_E} {n m : Nat} {z : Nat} (hq : OKq q1 q2 q3) : am_pf (n, m, RO sh kd kz ko q1 q2 q3 cp so ki nu no sp hn sl ah he fr ou tol bx rws ma dpd isl inn atk g) 18 5 3 (.int (nI z)) = some (n, m, RO (z) kd kz ko q1 q2 q3 cp so ki nu no sp hn sl ah he fr ou tol bx rws ma dpd isl inn atk g) := by
  show (match RO sh kd kz ko q1 q2 q3 cp so ki nu no sp hn sl ah he fr ou tol bx rws ma dpd isl inn atk g 18 with | some (.inr (c', fs)) => if c' = 5 ∧ 3 < fs.length then some (am_up (n, m, RO sh kd kz ko q1 q2 q3 cp so ki nu no sp hn sl ah he fr ou tol bx rws ma dpd isl inn atk g) 18 (.inr (c', fs.set 3 (.int (nI z))))) else none | _ => none) = _
  rw [RO_18 hq]
  refine congrArg some (Prod.ext rfl (Prod.ext rfl ?_))
  exact ovl_up (f2 := RF z kd kz ko q1 q2 q3 cp so ki nu no sp hn sl ah he fr ou tol bx rws ma dpd isl inn atk g) (hq.2 18 (by decide)) rfl (fun p hp => by unfold RF; split <;> first | rfl | exact absurd rfl hp)
theorem c_gf_5_4 {sh : Nat} {kd kz : Nat → Nat} {ko : Nat → Int32} {q1 q2 q3 cp : Nat} {so ki : Nat → Nat} {nu : Nat → Int64} {no sp : Nat} {hn sl ah : Nat → Nat} {he fr : Nat} {ou : Nat → Int64} {tol bx rws ma dpd isl inn atk : Nat} {g : Nat → Option am_E} {n m : Nat} (hq : OKq q1 q2 q3) : am_gf (n, m, RO sh kd kz ko q1 q2 q3 cp so ki nu no sp hn sl ah he fr ou tol bx rws ma dpd isl inn atk g) 18 5 4 = some (.ref q1) := by
  show (match RO sh kd kz ko q1 q2 q3 cp so ki nu no sp hn sl ah he fr ou tol bx rws ma dpd isl inn atk g 18 with | some (.inr (c', fs)) => if c' = 5 then fs[4]? else none | _ => none) = _
  rw [RO_18 hq]
  rfl
theorem c_gf_5_5 {sh : Nat} {kd kz : Nat → Nat} {ko : Nat → Int32} {q1 q2 q3 cp : Nat} {so ki : Nat → Nat} {nu : Nat → Int64} {no sp : Nat} {hn sl ah : Nat → Nat} {he fr : Nat} {ou : Nat → Int64} {tol bx rws ma dpd isl inn atk : Nat} {g : Nat → Option am_E} {n m : Nat} (hq : OKq q1 q2 q3) : am_gf (n, m, RO sh kd kz ko q1 q2 q3 cp so ki nu no sp hn sl ah he fr ou tol bx rws ma dpd isl inn atk g) 18 5 5 = some (.ref q2) := by
  show (match RO sh kd kz ko q1 q2 q3 cp so ki nu no sp hn sl ah he fr ou tol bx rws ma dpd isl inn atk g 18 with | some (.inr (c', fs)) => if c' = 5 then fs[5]? else none | _ => none) = _
  rw [RO_18 hq]
  rfl
theorem c_gf_5_6 {sh : Nat} {kd kz : Nat → Nat} {ko : Nat → Int32} {q1 q2 q3 cp : Nat} {so ki : Nat → Nat} {nu : Nat → Int64} {no sp : Nat} {hn sl ah : Nat → Nat} {he fr : Nat} {ou : Nat → Int64} {tol bx rws ma dpd isl inn atk : Nat} {g : Nat → Option am_E} {n m : Nat} (hq : OKq q1 q2 q3) : am_gf (n, m, RO sh kd kz ko q1 q2 q3 cp so ki nu no sp hn sl ah he fr ou tol bx rws ma dpd isl inn atk g) 18 5 6 = some (.ref q3) := by
  show (match RO sh kd kz ko q1 q2 q3 cp so ki nu no sp hn sl ah he fr ou tol bx rws ma dpd isl inn atk g 18 with | some (.inr (c', fs)) => if c' = 5 then fs[6]? else none | _ => none) = _
  rw [RO_18 hq]
  rfl
theorem c_gf_5_7 {sh : Nat} {kd kz : Nat → Nat} {ko : Nat → Int32} {q1 q2 q3 cp : Nat} {so ki : Nat → Nat} {nu : Nat → Int64} {no sp : Nat} {hn sl ah : Nat → Nat} {he fr : Nat} {ou : Nat → Int64} {tol bx rws ma dpd isl inn atk : Nat} {g : Nat → Option am_E} {n m : Nat} (hq : OKq q1 q2 q3) : am_gf (n, m, RO sh kd kz ko q1 q2 q3 cp so ki nu no sp hn sl ah he fr ou tol bx rws ma dpd isl inn atk g) 18 5 7 = some (.int (nI no)) := by
  show (match RO sh kd kz ko q1 q2 q3 cp so ki nu no sp hn sl ah he fr ou tol bx rws ma dpd isl inn atk g 18 with | some (.inr (c', fs)) => if c' = 5 then fs[7]? else none | _ => none) = _
  rw [RO_18 hq]
  rfl
theorem c_tc_5_7 (x : Int32) : am_tc (am_ty 5 7) (.int x) = true := q_tci x
theorem c_pf_5_7 {sh : Nat} {kd kz : Nat → Nat} {ko : Nat → Int32} {q1 q2 q3 cp : Nat} {so ki : Nat → Nat} {nu : Nat → Int64} {no sp : Nat} {hn sl ah : Nat → Nat} {he fr : Nat} {ou : Nat → Int64} {tol bx rws ma dpd isl inn atk : Nat} {g : Nat → Option am_E} {n m : Nat} {z : Nat} (hq : OKq q1 q2 q3) : am_pf (n, m, RO sh kd kz ko q1 q2 q3 cp so ki nu no sp hn sl ah he fr ou tol bx rws ma dpd isl inn atk g) 18 5 7 (.int (nI z)) = some (n, m, RO sh kd kz ko q1 q2 q3 cp so ki nu (z) sp hn sl ah he fr ou tol bx rws ma dpd isl inn atk g) := by
  show (match RO sh kd kz ko q1 q2 q3 cp so ki nu no sp hn sl ah he fr ou tol bx rws ma dpd isl inn atk g 18 with | some (.inr (c', fs)) => if c' = 5 ∧ 7 < fs.length then some (am_up (n, m, RO sh kd kz ko q1 q2 q3 cp so ki nu no sp hn sl ah he fr ou tol bx rws ma dpd isl inn atk g) 18 (.inr (c', fs.set 7 (.int (nI z))))) else none | _ => none) = _
  rw [RO_18 hq]
  refine congrArg some (Prod.ext rfl (Prod.ext rfl ?_))
  exact ovl_up (f2 := RF sh kd kz ko q1 q2 q3 cp so ki nu z sp hn sl ah he fr ou tol bx rws ma dpd isl inn atk g) (hq.2 18 (by decide)) rfl (fun p hp => by unfold RF; split <;> first | rfl | exact absurd rfl hp)
theorem c_gf_5_8 {sh : Nat} {kd kz : Nat → Nat} {ko : Nat → Int32} {q1 q2 q3 cp : Nat} {so ki : Nat → Nat} {nu : Nat → Int64} {no sp : Nat} {hn sl ah : Nat → Nat} {he fr : Nat} {ou : Nat → Int64} {tol bx rws ma dpd isl inn atk : Nat} {g : Nat → Option am_E} {n m : Nat} (hq : OKq q1 q2 q3) : am_gf (n, m, RO sh kd kz ko q1 q2 q3 cp so ki nu no sp hn sl ah he fr ou tol bx rws ma dpd isl inn atk g) 18 5 8 = some (.int (nI sp)) := by
  show (match RO sh kd kz ko q1 q2 q3 cp so ki nu no sp hn sl ah he fr ou tol bx rws ma dpd isl inn atk g 18 with | some (.inr (c', fs)) => if c' = 5 then fs[8]? else none | _ => none) = _
  rw [RO_18 hq]
  rfl
theorem c_tc_5_8 (x : Int32) : am_tc (am_ty 5 8) (.int x) = true := q_tci x
theorem c_pf_5_8 {sh : Nat} {kd kz : Nat → Nat} {ko : Nat → Int32} {q1 q2 q3 cp : Nat} {so ki : Nat → Nat} {nu : Nat → Int64} {no sp : Nat} {hn sl ah : Nat → Nat} {he fr : Nat} {ou : Nat → Int64} {tol bx rws ma dpd isl inn atk : Nat} {g : Nat → Option am_E} {n m : Nat} {z : Nat} (hq : OKq q1 q2 q3) : am_pf (n, m, RO sh kd kz ko q1 q2 q3 cp so ki nu no sp hn sl ah he fr ou tol bx rws ma dpd isl inn atk g) 18 5 8 (.int (nI z)) = some (n, m, RO sh kd kz ko q1 q2 q3 cp so ki nu no (z) hn sl ah he fr ou tol bx rws ma dpd isl inn atk g) := by
  show (match RO sh kd kz ko q1 q2 q3 cp so ki nu no sp hn sl ah he fr ou tol bx rws ma dpd isl inn atk g 18 with | some (.inr (c', fs)) => if c' = 5 ∧ 8 < fs.length then some (am_up (n, m, RO sh kd kz ko q1 q2 q3 cp so ki nu no sp hn sl ah he fr ou tol bx rws ma dpd isl inn atk g) 18 (.inr (c', fs.set 8 (.int (nI z))))) else none | _ => none) = _
  rw [RO_18 hq]
  refine congrArg some (Prod.ext rfl (Prod.ext rfl ?_))
  exact ovl_up (f2 := RF sh kd kz ko q1 q2 q3 cp so ki nu no z hn sl ah he fr ou tol bx rws ma dpd isl inn atk g) (hq.2 18 (by decide)) rfl (fun p hp => by unfold RF; split <;> first | rfl | exact absurd rfl hp)
theorem c_gf_5_9 {sh : Nat} {kd kz : Nat → Nat} {ko : Nat → Int32} {q1 q2 q3 cp : Nat} {so ki : Nat → Nat} {nu : Nat → Int64} {no sp : Nat} {hn sl ah : Nat → Nat} {he fr : Nat} {ou : Nat → Int64} {tol bx rws ma dpd isl inn atk : Nat} {g : Nat → Option am_E} {n m : Nat} (hq : OKq q1 q2 q3) : am_gf (n, m, RO sh kd kz ko q1 q2 q3 cp so ki nu no sp hn sl ah he fr ou tol bx rws ma dpd isl inn atk g) 18 5 9 = some (.ref 25) := by
  show (match RO sh kd kz ko q1 q2 q3 cp so ki nu no sp hn sl ah he fr ou tol bx rws ma dpd isl inn atk g 18 with | some (.inr (c', fs)) => if c' = 5 then fs[9]? else none | _ => none) = _
  rw [RO_18 hq]
  rfl
theorem c_gf_5_10 {sh : Nat} {kd kz : Nat → Nat} {ko : Nat → Int32} {q1 q2 q3 cp : Nat} {so ki : Nat → Nat} {nu : Nat → Int64} {no sp : Nat} {hn sl ah : Nat → Nat} {he fr : Nat} {ou : Nat → Int64} {tol bx rws ma dpd isl inn atk : Nat} {g : Nat → Option am_E} {n m : Nat} (hq : OKq q1 q2 q3) : am_gf (n, m, RO sh kd kz ko q1 q2 q3 cp so ki nu no sp hn sl ah he fr ou tol bx rws ma dpd isl inn atk g) 18 5 10 = some (.ref 26) := by
  show (match RO sh kd kz ko q1 q2 q3 cp so ki nu no sp hn sl ah he fr ou tol bx rws ma dpd isl inn atk g 18 with | some (.inr (c', fs)) => if c' = 5 then fs[10]? else none | _ => none) = _
  rw [RO_18 hq]
  rfl
theorem c_gf_5_11 {sh : Nat} {kd kz : Nat → Nat} {ko : Nat → Int32} {q1 q2 q3 cp : Nat} {so ki : Nat → Nat} {nu : Nat → Int64} {no sp : Nat} {hn sl ah : Nat → Nat} {he fr : Nat} {ou : Nat → Int64} {tol bx rws ma dpd isl inn atk : Nat} {g : Nat → Option am_E} {n m : Nat} (hq : OKq q1 q2 q3) : am_gf (n, m, RO sh kd kz ko q1 q2 q3 cp so ki nu no sp hn sl ah he fr ou tol bx rws ma dpd isl inn atk g) 18 5 11 = some (.ref 27) := by
  show (match RO sh kd kz ko q1 q2 q3 cp so ki nu no sp hn sl ah he fr ou tol bx rws ma dpd isl inn atk g 18 with | some (.inr (c', fs)) => if c' = 5 then fs[11]? else none | _ => none) = _
  rw [RO_18 hq]
  rfl
theorem c_gf_5_12 {sh : Nat} {kd kz : Nat → Nat} {ko : Nat → Int32} {q1 q2 q3 cp : Nat} {so ki : Nat → Nat} {nu : Nat → Int64} {no sp : Nat} {hn sl ah : Nat → Nat} {he fr : Nat} {ou : Nat → Int64} {tol bx rws ma dpd isl inn atk : Nat} {g : Nat → Option am_E} {n m : Nat} (hq : OKq q1 q2 q3) : am_gf (n, m, RO sh kd kz ko q1 q2 q3 cp so ki nu no sp hn sl ah he fr ou tol bx rws ma dpd isl inn atk g) 18 5 12 = some (.int (nI he)) := by
  show (match RO sh kd kz ko q1 q2 q3 cp so ki nu no sp hn sl ah he fr ou tol bx rws ma dpd isl inn atk g 18 with | some (.inr (c', fs)) => if c' = 5 then fs[12]? else none | _ => none) = _
  rw [RO_18 hq]
  rfl
theorem c_tc_5_12 (x : Int32) : am_tc (am_ty 5 12) (.int x) = true := q_tci x
theorem c_pf_5_12 {sh : Nat} {kd kz : Nat → Nat} {ko : Nat → Int32} {q1 q2 q3 cp : Nat} {so ki : Nat → Nat} {nu : Nat → Int64} {no sp : Nat} {hn sl ah : Nat → Nat} {he fr : Nat} {ou : Nat → Int64} {tol bx rws ma dpd isl inn atk : Nat} {g : Nat → Option am_E} {n m : Nat} {z : Nat} (hq : OKq q1 q2 q3) : am_pf (n, m, RO sh kd kz ko q1 q2 q3 cp so ki nu no sp hn sl ah he fr ou tol bx rws ma dpd isl inn atk g) 18 5 12 (.int (nI z)) = some (n, m, RO sh kd kz ko q1 q2 q3 cp so ki nu no sp hn sl ah (z) fr ou tol bx rws ma dpd isl inn atk g) := by
  show (match RO sh kd kz ko q1 q2 q3 cp so ki nu no sp hn sl ah he fr ou tol bx rws ma dpd isl inn atk g 18 with | some (.inr (c', fs)) => if c' = 5 ∧ 12 < fs.length then some (am_up (n, m, RO sh kd kz ko q1 q2 q3 cp so ki nu no sp hn sl ah he fr ou tol bx rws ma dpd isl inn atk g) 18 (.inr (c', fs.set 12 (.int (nI z))))) else none | _ => none) = _
  rw [RO_18 hq]
  refine congrArg some (Prod.ext rfl (Prod.ext rfl ?_))
  exact ovl_up (f2 := RF sh kd kz ko q1 q2 q3 cp so ki nu no sp hn sl ah z fr ou tol bx rws ma dpd isl inn atk g) (hq.2 18 (by decide)) rfl (fun p hp => by unfold RF; split <;> first | rfl | exact absurd rfl hp)
theorem c_gf_5_13 {sh : Nat} {kd kz : Nat → Nat} {ko : Nat → Int32} {q1 q2 q3 cp : Nat} {so ki : Nat → Nat} {nu : Nat → Int64} {no sp : Nat} {hn sl ah : Nat → Nat} {he fr : Nat} {ou : Nat → Int64} {tol bx rws ma dpd isl inn atk : Nat} {g : Nat → Option am_E} {n m : Nat} (hq : OKq q1 q2 q3) : am_gf (n, m, RO sh kd kz ko q1 q2 q3 cp so ki nu no sp hn sl ah he fr ou tol bx rws ma dpd isl inn atk g) 18 5 13 = some (.int (nI fr)) := by
  show (match RO sh kd kz ko q1 q2 q3 cp so ki nu no sp hn sl ah he fr ou tol bx rws ma dpd isl inn atk g 18 with | some (.inr (c', fs)) => if c' = 5 then fs[13]? else none | _ => none) = _
  rw [RO_18 hq]
  rfl
theorem c_tc_5_13 (x : Int32) : am_tc (am_ty 5 13) (.int x) = true := q_tci x
theorem c_pf_5_13 {sh : Nat} {kd kz : Nat → Nat} {ko : Nat → Int32} {q1 q2 q3 cp : Nat} {so ki : Nat → Nat} {nu : Nat → Int64} {no sp : Nat} {hn sl ah : Nat → Nat} {he fr : Nat} {ou : Nat → Int64} {tol bx rws ma dpd isl inn atk : Nat} {g : Nat → Option am_E} {n m : Nat} {z : Nat} (hq : OKq q1 q2 q3) : am_pf (n, m, RO sh kd kz ko q1 q2 q3 cp so ki nu no sp hn sl ah he fr ou tol bx rws ma dpd isl inn atk g) 18 5 13 (.int (nI z)) = some (n, m, RO sh kd kz ko q1 q2 q3 cp so ki nu no sp hn sl ah he (z) ou tol bx rws ma dpd isl inn atk g) := by
  show (match RO sh kd kz ko q1 q2 q3 cp so ki nu no sp hn sl ah he fr ou tol bx rws ma dpd isl inn atk g 18 with | some (.inr (c', fs)) => if c' = 5 ∧ 13 < fs.length then some (am_up (n, m, RO sh kd kz ko q1 q2 q3 cp so ki nu no sp hn sl ah he fr ou tol bx rws ma dpd isl inn atk g) 18 (.inr (c', fs.set 13 (.int (nI z))))) else none | _ => none) = _
  rw [RO_18 hq]
  refine congrArg some (Prod.ext rfl (Prod.ext rfl ?_))
  exact ovl_up (f2 := RF sh kd kz ko q1 q2 q3 cp so ki nu no sp hn sl ah he z ou tol bx rws ma dpd isl inn atk g) (hq.2 18 (by decide)) rfl (fun p hp => by unfold RF; split <;> first | rfl | exact absurd rfl hp)
theorem c_gf_5_14 {sh : Nat} {kd kz : Nat → Nat} {ko : Nat → Int32} {q1 q2 q3 cp : Nat} {so ki : Nat → Nat} {nu : Nat → Int64} {no sp : Nat} {hn sl ah : Nat → Nat} {he fr : Nat} {ou : Nat → Int64} {tol bx rws ma dpd isl inn atk : Nat} {g : Nat → Option am_E} {n m : Nat} (hq : OKq q1 q2 q3) : am_gf (n, m, RO sh kd kz ko q1 q2 q3 cp so ki nu no sp hn sl ah he fr ou tol bx rws ma dpd isl inn atk g) 18 5 14 = some (.ref 28) := by
  show (match RO sh kd kz ko q1 q2 q3 cp so ki nu no sp hn sl ah he fr ou tol bx rws ma dpd isl inn atk g 18 with | some (.inr (c', fs)) => if c' = 5 then fs[14]? else none | _ => none) = _
  rw [RO_18 hq]
  rfl
theorem c_gf_5_15 {sh : Nat} {kd kz : Nat → Nat} {ko : Nat → Int32} {q1 q2 q3 cp : Nat} {so ki : Nat → Nat} {nu : Nat → Int64} {no sp : Nat} {hn sl ah : Nat → Nat} {he fr : Nat} {ou : Nat → Int64} {tol bx rws ma dpd isl inn atk : Nat} {g : Nat → Option am_E} {n m : Nat} (hq : OKq q1 q2 q3) : am_gf (n, m, RO sh kd kz ko q1 q2 q3 cp so ki nu no sp hn sl ah he fr ou tol bx rws ma dpd isl inn atk g) 18 5 15 = some (.int (nI tol)) := by
  show (match RO sh kd kz ko q1 q2 q3 cp so ki nu no sp hn sl ah he fr ou tol bx rws ma dpd isl inn atk g 18 with | some (.inr (c', fs)) => if c' = 5 then fs[15]? else none | _ => none) = _
  rw [RO_18 hq]
  rfl
theorem c_tc_5_15 (x : Int32) : am_tc (am_ty 5 15) (.int x) = true := q_tci x
theorem c_pf_5_15 {sh : Nat} {kd kz : Nat → Nat} {ko : Nat → Int32} {q1 q2 q3 cp : Nat} {so ki : Nat → Nat} {nu : Nat → Int64} {no sp : Nat} {hn sl ah : Nat → Nat} {he fr : Nat} {ou : Nat → Int64} {tol bx rws ma dpd isl inn atk : Nat} {g : Nat → Option am_E} {n m : Nat} {z : Nat} (hq : OKq q1 q2 q3) : am_pf (n, m, RO sh kd kz ko q1 q2 q3 cp so ki nu no sp hn sl ah he fr ou tol bx rws ma dpd isl inn atk g) 18 5 15 (.int (nI z)) = some (n, m, RO sh kd kz ko q1 q2 q3 cp so ki nu no sp hn sl ah he fr ou (z) bx rws ma dpd isl inn atk g) := by
  show (match RO sh kd kz ko q1 q2 q3 cp so ki nu no sp hn sl ah he fr ou tol bx rws ma dpd isl inn atk g 18 with | some (.inr (c', fs)) => if c' = 5 ∧ 15 < fs.length then some (am_up (n, m, RO sh kd kz ko q1 q2 q3 cp so ki nu no sp hn sl ah he fr ou tol bx rws ma dpd isl inn atk g) 18 (.inr (c', fs.set 15 (.int (nI z))))) else none | _ => none) = _
  rw [RO_18 hq]
  refine congrArg some (Prod.ext rfl (Prod.ext rfl ?_))
  exact ovl_up (f2 := RF sh kd kz ko q1 q2 q3 cp so ki nu no sp hn sl ah he fr ou z bx rws ma dpd isl inn atk g) (hq.2 18 (by decide)) rfl (fun p hp => by unfold RF; split <;> first | rfl | exact absurd rfl hp)
theorem c_gf_5_16 {sh : Nat} {kd kz : Nat → Nat} {ko : Nat → Int32} {q1 q2 q3 cp : Nat} {so ki : Nat → Nat} {nu : Nat → Int64} {no sp : Nat} {hn sl ah : Nat → Nat} {he fr : Nat} {ou : Nat → Int64} {tol bx rws ma dpd isl inn atk : Nat} {g : Nat → Option am_E} {n m : Nat} (hq : OKq q1 q2 q3) : am_gf (n, m, RO sh kd kz ko q1 q2 q3 cp so ki nu no sp hn sl ah he fr ou tol bx rws ma dpd isl inn atk g) 18 5 16 = some (.int (nI bx)) := by
  show (match RO sh kd kz ko q1 q2 q3 cp so ki nu no sp hn sl ah he fr ou tol bx rws ma dpd isl inn atk g 18 with | some (.inr (c', fs)) => if c' = 5 then fs[16]? else none | _ => none) = _
  rw [RO_18 hq]
  rfl
theorem c_tc_5_16 (x : Int32) : am_tc (am_ty 5 16) (.int x) = true := q_tci x
theorem c_pf_5_16 {sh : Nat} {kd kz : Nat → Nat} {ko : Nat → Int32} {q1 q2 q3 cp : Nat} {so ki : Nat → Nat} {nu : Nat → Int64} {no sp : Nat} {hn sl ah : Nat → Nat} {he fr : Nat} {ou : Nat → Int64} {tol bx rws ma dpd isl inn atk : Nat} {g : Nat → Option am_E} {n m : Nat} {z : Nat} (hq : OKq q1 q2 q3) : am_pf (n, m, RO sh kd kz ko q1 q2 q3 cp so ki nu no sp hn sl ah he fr ou tol bx rws ma dpd isl inn atk g) 18 5 16 (.int (nI z)) = some (n, m, RO sh kd kz ko q1 q2 q3 cp so ki nu no sp hn sl ah he fr ou tol (z) rws ma dpd isl inn atk g) := by
  show (match RO sh kd kz ko q1 q2 q3 cp so ki nu no sp hn sl ah he fr ou tol bx rws ma dpd isl inn atk g 18 with | some (.inr (c', fs)) => if c' = 5 ∧ 16 < fs.length then some (am_up (n, m, RO sh kd kz ko q1 q2 q3 cp so ki nu no sp hn sl ah he fr ou tol bx rws ma dpd isl inn atk g) 18 (.inr (c', fs.set 16 (.int (nI z))))) else none | _ => none) = _
  rw [RO_18 hq]
  refine congrArg some (Prod.ext rfl (Prod.ext rfl ?_))
  exact ovl_up (f2 := RF sh kd kz ko q1 q2 q3 cp so ki nu no sp hn sl ah he fr ou tol z rws ma dpd isl inn atk g) (hq.2 18 (by decide)) rfl (fun p hp => by unfold RF; split <;> first | rfl | exact absurd rfl hp)
theorem c_gf_5_17 {sh : Nat} {kd kz : Nat → Nat} {ko : Nat → Int32} {q1 q2 q3 cp : Nat} {so ki : Nat → Nat} {nu : Nat → Int64} {no sp : Nat} {hn sl ah : Nat → Nat} {he fr : Nat} {ou : Nat → Int64} {tol bx rws ma dpd isl inn atk : Nat} {g : Nat → Option am_E} {n m : Nat} (hq : OKq q1 q2 q3) : am_gf (n, m, RO sh kd kz ko q1 q2 q3 cp so ki nu no sp hn sl ah he fr ou tol bx rws ma dpd isl inn atk g) 18 5 17 = some (.int (nI rws)) := by
  show (match RO sh kd kz ko q1 q2 q3 cp so ki nu no sp hn sl ah he fr ou tol bx rws ma dpd isl inn atk g 18 with | some (.inr (c', fs)) => if c' = 5 then fs[17]? else none | _ => none) = _
  rw [RO_18 hq]
  rfl
theorem c_tc_5_17 (x : Int32) : am_tc (am_ty 5 17) (.int x) = true := q_tci x
theorem c_pf_5_17 {sh : Nat} {kd kz : Nat → Nat} {ko : Nat → Int32} {q1 q2 q3 cp : Nat} {so ki : Nat → Nat} {nu : Nat → Int64} {no sp : Nat} {hn sl ah : Nat → Nat} {he fr : Nat} {ou : Nat → Int64} {tol bx rws ma dpd isl inn atk : Nat} {g : Nat → Option am_E} {n m : Nat} {z : Nat} (hq : OKq q1 q2 q3) : am_pf (n, m, RO sh kd kz ko q1 q2 q3 cp so ki nu no sp hn sl ah he fr ou tol bx rws ma dpd isl inn atk g) 18 5 17 (.int (nI z)) = some (n, m, RO sh kd kz ko q1 q2 q3 cp so ki nu no sp hn sl ah he fr ou tol bx (z) ma dpd isl inn atk g) := by
  show (match RO sh kd kz ko q1 q2 q3 cp so ki nu no sp hn sl ah he fr ou tol bx rws ma dpd isl inn atk g 18 with | some (.inr (c', fs)) => if c' = 5 ∧ 17 < fs.length then some (am_up (n, m, RO sh kd kz ko q1 q2 q3 cp so ki nu no sp hn sl ah he fr ou tol bx rws ma dpd isl inn atk g) 18 (.inr (c', fs.set 17 (.int (nI z))))) else none | _ => none) = _
  rw [RO_18 hq]
  refine congrArg some (Prod.ext rfl (Prod.ext rfl ?_))
  exact ovl_up (f2 := RF sh kd kz ko q1 q2 q3 cp so ki nu no sp hn sl ah he fr ou tol bx z ma dpd isl inn atk g) (hq.2 18 (by decide)) rfl (fun p hp => by unfold RF; split <;> first | rfl | exact absurd rfl hp)
theorem c_gf_5_18 {sh : Nat} {kd kz : Nat → Nat} {ko : Nat → Int32} {q1 q2 q3 cp : Nat} {so ki : Nat → Nat} {nu : Nat → Int64} {no sp : Nat} {hn sl ah : Nat → Nat} {he fr : Nat} {ou : Nat → Int64} {tol bx rws ma dpd isl inn atk : Nat} {g : Nat → Option am_E} {n m : Nat} (hq : OKq q1 q2 q3) : am_gf (n, m, RO sh kd kz ko q1 q2 q3 cp so ki nu no sp hn sl ah he fr ou tol bx rws ma dpd isl inn atk g) 18 5 18 = some (.int (nI ma)) := by
  show (match RO sh kd kz ko q1 q2 q3 cp so ki nu no sp hn sl ah he fr ou tol bx rws ma dpd isl inn atk g 18 with | some (.inr (c', fs)) => if c' = 5 then fs[18]? else none | _ => none) = _
  rw [RO_18 hq]
  rfl
theorem c_tc_5_18 (x : Int32) : am_tc (am_ty 5 18) (.int x) = true := q_tci x
theorem c_pf_5_18 {sh : Nat} {kd kz : Nat → Nat} {ko : Nat → Int32} {q1 q2 q3 cp : Nat} {so ki : Nat → Nat} {nu : Nat → Int64} {no sp : Nat} {hn sl ah : Nat → Nat} {he fr : Nat} {ou : Nat → Int64} {tol bx rws ma dpd isl inn atk : Nat} {g : Nat → Option am_E} {n m : Nat} {z : Nat} (hq : OKq q1 q2 q3) : am_pf (n, m, RO sh kd kz ko q1 q2 q3 cp so ki nu no sp hn sl ah he fr ou tol bx rws ma dpd isl inn atk g) 18 5 18 (.int (nI z)) = some (n, m, RO sh kd kz ko q1 q2 q3 cp so ki nu no sp hn sl ah he fr ou tol bx rws (z) dpd isl inn atk g) := by
  show (match RO sh kd kz ko q1 q2 q3 cp so ki nu no sp hn sl ah he fr ou tol bx rws ma dpd isl inn atk g 18 with | some (.inr (c', fs)) => if c' = 5 ∧ 18 < fs.length then some (am_up (n, m, RO sh kd kz ko q1 q2 q3 cp so ki nu no sp hn sl ah he fr ou tol bx rws ma dpd isl inn atk g) 18 (.inr (c', fs.set 18 (.int (nI z))))) else none | _ => none) = _
  rw [RO_18 hq]
  refine congrArg some (Prod.ext rfl (Prod.ext rfl ?_))
  exact ovl_up (f2 := RF sh kd kz ko q1 q2 q3 cp so ki nu no sp hn sl ah he fr ou tol bx rws z dpd isl inn atk g) (hq.2 18 (by decide)) rfl (fun p hp => by unfold RF; split <;> first | rfl | exact absurd rfl hp)
theorem c_gf_5_19 {sh : Nat} {kd kz : Nat → Nat} {ko : Nat → Int32} {q1 q2 q3 cp : Nat} {so ki : Nat → Nat} {nu : Nat → Int64} {no sp : Nat} {hn sl ah : Nat → Nat} {he fr : Nat} {ou : Nat → Int64} {tol bx rws ma dpd isl inn atk : Nat} {g : Nat → Option am_E} {n m : Nat} (hq : OKq q1 q2 q3) : am_gf (n, m, RO sh kd kz ko q1 q2 q3 cp so ki nu no sp hn sl ah he fr ou tol bx rws ma dpd isl inn atk g) 18 5 19 = some (.int (nI dpd)) := by
  show (match RO sh kd kz ko q1 q2 q3 cp so ki nu no sp hn sl ah he fr ou tol bx rws ma dpd isl inn atk g 18 with | some (.inr (c', fs)) => if c' = 5 then fs[19]? else none | _ => none) = _
  rw [RO_18 hq]
  rfl
theorem c_tc_5_19 (x : Int32) : am_tc (am_ty 5 19) (.int x) = true := q_tci x
theorem c_pf_5_19 {sh : Nat} {kd kz : Nat → Nat} {ko : Nat → Int32} {q1 q2 q3 cp : Nat} {so ki : Nat → Nat} {nu : Nat → Int64} {no sp : Nat} {hn sl ah : Nat → Nat} {he fr : Nat} {ou : Nat → Int64} {tol bx rws ma dpd isl inn atk : Nat} {g : Nat → Option am_E} {n m : Nat} {z : Nat} (hq : OKq q1 q2 q3) : am_pf (n, m, RO sh kd kz ko q1 q2 q3 cp so ki nu no sp hn sl ah he fr ou tol bx rws ma dpd isl inn atk g) 18 5 19 (.int (nI z)) = some (n, m, RO sh kd kz ko q1 q2 q3 cp so ki nu no sp hn sl ah he fr ou tol bx rws ma (z) isl inn atk g) := by
  show (match RO sh kd kz ko q1 q2 q3 cp so ki nu no sp hn sl ah he fr ou tol bx rws ma dpd isl inn atk g 18 with | some (.inr (c', fs)) => if c' = 5 ∧ 19 < fs.length then some (am_up (n, m, RO sh kd kz ko q1 q2 q3 cp so ki nu no sp hn sl ah he fr ou tol bx rws ma dpd isl inn atk g) 18 (.inr (c', fs.set 19 (.int (nI z))))) else none | _ => none) = _
  rw [RO_18 hq]
  refine congrArg some (Prod.ext rfl (Prod.ext rfl ?_))
  exact ovl_up (f2 := RF sh kd kz ko q1 q2 q3 cp so ki nu no sp hn sl ah he fr ou tol bx rws ma z isl inn atk g) (hq.2 18 (by decide)) rfl (fun p hp => by unfold RF; split <;> first | rfl | exact absurd rfl hp)
theorem c_gf_5_20 {sh : Nat} {kd kz : Nat → Nat} {ko : Nat → Int32} {q1 q2 q3 cp : Nat} {so ki : Nat → Nat} {nu : Nat → Int64} {no sp : Nat} {hn sl ah : Nat → Nat} {he fr : Nat} {ou : Nat → Int64} {tol bx rws ma dpd isl inn atk : Nat} {g : Nat → Option am_E} {n m : Nat} (hq : OKq q1 q2 q3) : am_gf (n, m, RO sh kd kz ko q1 q2 q3 cp so ki nu no sp hn sl ah he fr ou tol bx rws ma dpd isl inn atk g) 18 5 20 = some (.int (nI isl)) := by
  show (match RO sh kd kz ko q1 q2 q3 cp so ki nu no sp hn sl ah he fr ou tol bx rws ma dpd isl inn atk g 18 with | some (.inr (c', fs)) => if c' = 5 then fs[20]? else none | _ => none) = _
  rw [RO_18 hq]
  rfl
theorem c_tc_5_20a : am_tc (am_ty 5 20) (.int (nI 0)) = true := q_tc0
theorem c_tc_5_20b : am_tc (am_ty 5 20) (.int (nI 1)) = true := q_tc1
theorem c_pf_5_20 {sh : Nat} {kd kz : Nat → Nat} {ko : Nat → Int32} {q1 q2 q3 cp : Nat} {so ki : Nat → Nat} {nu : Nat → Int64} {no sp : Nat} {hn sl ah : Nat → Nat} {he fr : Nat} {ou : Nat → Int64} {tol bx rws ma dpd isl inn atk : Nat} {g : Nat → Option am_E} {n m : Nat} {z : Nat} (hq : OKq q1 q2 q3) : am_pf (n, m, RO sh kd kz ko q1 q2 q3 cp so ki nu no sp hn sl ah he fr ou tol bx rws ma dpd isl inn atk g) 18 5 20 (.int (nI z)) = some (n, m, RO sh kd kz ko q1 q2 q3 cp so ki nu no sp hn sl ah he fr ou tol bx rws ma dpd (z) inn atk g) := by
  show (match RO sh kd kz ko q1 q2 q3 cp so ki nu no sp hn sl ah he fr ou tol bx rws ma dpd isl inn atk g 18 with | some (.inr (c', fs)) => if c' = 5 ∧ 20 < fs.length then some (am_up (n, m, RO sh kd kz ko q1 q2 q3 cp so ki nu no sp hn sl ah he fr ou tol bx rws ma dpd isl inn atk g) 18 (.inr (c', fs.set 20 (.int (nI z))))) else none | _ => none) = _
  rw [RO_18 hq]
  refine congrArg some (Prod.ext rfl (Prod.ext rfl ?_))
  exact ovl_up (f2 := RF sh kd kz ko q1 q2 q3 cp so ki nu no sp hn sl ah he fr ou tol bx rws ma dpd z inn atk g) (hq.2 18 (by decide)) rfl (fun p hp => by unfold RF; split <;> first | rfl | exact absurd rfl hp)
theorem c_gf_5_21 {sh : Nat} {kd kz : Nat → Nat} {ko : Nat → Int32} {q1 q2 q3 cp : Nat} {so ki : Nat → Nat} {nu : Nat → Int64} {no sp : Nat} {hn sl ah : Nat → Nat} {he fr : Nat} {ou : Nat → Int64} {tol bx rws ma dpd isl inn atk : Nat} {g : Nat → Option am_E} {n m : Nat} (hq : OKq q1 q2 q3) : am_gf (n, m, RO sh kd kz ko q1 q2 q3 cp so ki nu no sp hn sl ah he fr ou tol bx rws ma dpd isl inn atk g) 18 5 21 = some (.int (nI inn)) := by
  show (match RO sh kd kz ko q1 q2 q3 cp so ki nu no sp hn sl ah he fr ou tol bx rws ma dpd isl inn atk g 18 with | some (.inr (c', fs)) => if c' = 5 then fs[21]? else none | _ => none) = _
  rw [RO_18 hq]
  rfl
theorem c_tc_5_21 (x : Int32) : am_tc (am_ty 5 21) (.int x) = true := q_tci x
theorem c_pf_5_21 {sh : Nat} {kd kz : Nat → Nat} {ko : Nat → Int32} {q1 q2 q3 cp : Nat} {so ki : Nat → Nat} {nu : Nat → Int64} {no sp : Nat} {hn sl ah : Nat → Nat} {he fr : Nat} {ou : Nat → Int64} {tol bx rws ma dpd isl inn atk : Nat} {g : Nat → Option am_E} {n m : Nat} {z : Nat} (hq : OKq q1 q2 q3) : am_pf (n, m, RO sh kd kz ko q1 q2 q3 cp so ki nu no sp hn sl ah he fr ou tol bx rws ma dpd isl inn atk g) 18 5 21 (.int (nI z)) = some (n, m, RO sh kd kz ko q1 q2 q3 cp so ki nu no sp hn sl ah he fr ou tol bx rws ma dpd isl (z) atk g) := by
  show (match RO sh kd kz ko q1 q2 q3 cp so ki nu no sp hn sl ah he fr ou tol bx rws ma dpd isl inn atk g 18 with | some (.inr (c', fs)) => if c' = 5 ∧ 21 < fs.length then some (am_up (n, m, RO sh kd kz ko q1 q2 q3 cp so ki nu no sp hn sl ah he fr ou tol bx rws ma dpd isl inn atk g) 18 (.inr (c', fs.set 21 (.int (nI z))))) else none | _ => none) = _
  rw [RO_18 hq]
  refine congrArg some (Prod.ext rfl (Prod.ext rfl ?_))
  exact ovl_up (f2 := RF sh kd kz ko q1 q2 q3 cp so ki nu no sp hn sl ah he fr ou tol bx rws ma dpd isl z atk g) (hq.2 18 (by decide)) rfl (fun p hp => by unfold RF; split <;> first | rfl | exact absurd rfl hp)
theorem c_gf_5_22 {sh : Nat} {kd kz : Nat → Nat} {ko : Nat → Int32} {q1 q2 q3 cp : Nat} {so ki : Nat → Nat} {nu : Nat → Int64} {no sp : Nat} {hn sl ah : Nat → Nat} {he fr : Nat} {ou : Nat → Int64} {tol bx rws ma dpd isl inn atk : Nat} {g : Nat → Option am_E} {n m : Nat} (hq : OKq q1 q2 q3) : am_gf (n, m, RO sh kd kz ko q1 q2 q3 cp so ki nu no sp hn sl ah he fr ou tol bx rws ma dpd isl inn atk g) 18 5 22 = some (.int (nI atk)) := by
  show (match RO sh kd kz ko q1 q2 q3 cp so ki nu no sp hn sl ah he fr ou tol bx rws ma dpd isl inn atk g 18 with | some (.inr (c', fs)) => if c' = 5 then fs[22]? else none | _ => none) = _
  rw [RO_18 hq]
  rfl
theorem c_tc_5_22 (x : Int32) : am_tc (am_ty 5 22) (.int x) = true := q_tci x
theorem c_pf_5_22 {sh : Nat} {kd kz : Nat → Nat} {ko : Nat → Int32} {q1 q2 q3 cp : Nat} {so ki : Nat → Nat} {nu : Nat → Int64} {no sp : Nat} {hn sl ah : Nat → Nat} {he fr : Nat} {ou : Nat → Int64} {tol bx rws ma dpd isl inn atk : Nat} {g : Nat → Option am_E} {n m : Nat} {z : Nat} (hq : OKq q1 q2 q3) : am_pf (n, m, RO sh kd kz ko q1 q2 q3 cp so ki nu no sp hn sl ah he fr ou tol bx rws ma dpd isl inn atk g) 18 5 22 (.int (nI z)) = some (n, m, RO sh kd kz ko q1 q2 q3 cp so ki nu no sp hn sl ah he fr ou tol bx rws ma dpd isl inn (z) g) := by
  show (match RO sh kd kz ko q1 q2 q3 cp so ki nu no sp hn sl ah he fr ou tol bx rws ma dpd isl inn atk g 18 with | some (.inr (c', fs)) => if c' = 5 ∧ 22 < fs.length then some (am_up (n, m, RO sh kd kz ko q1 q2 q3 cp so ki nu no sp hn sl ah he fr ou tol bx rws ma dpd isl inn atk g) 18 (.inr (c', fs.set 22 (.int (nI z))))) else none | _ => none) = _
  rw [RO_18 hq]
  refine congrArg some (Prod.ext rfl (Prod.ext rfl ?_))
  exact ovl_up (f2 := RF sh kd kz ko q1 q2 q3 cp so ki nu no sp hn sl ah he fr ou tol bx rws ma dpd isl inn z g) (hq.2 18 (by decide)) rfl (fun p hp => by unfold RF; split <;> first | rfl | exact absurd rfl hp)
theorem c_g_19 {sh : Nat} {kd kz : Nat → Nat} {ko : Nat → Int32} {q1 q2 q3 cp : Nat} {so ki : Nat → Nat} {nu : Nat → Int64} {no sp : Nat} {hn sl ah : Nat → Nat} {he fr : Nat} {ou : Nat → Int64} {tol bx rws ma dpd isl inn atk : Nat} {g : Nat → Option am_E} {n m : Nat} {k : Nat} (hk : k < 24) (hq : OKq q1 q2 q3) : am_gi (n, m, RO sh kd kz ko q1 q2 q3 cp so ki nu no sp hn sl ah he fr ou tol bx rws ma dpd isl inn atk g) 19 (nI k) = some (nI (kd k)) := by
  show (match RO sh kd kz ko q1 q2 q3 cp so ki nu no sp hn sl ah he fr ou tol bx rws ma dpd isl inn atk g 19 with | some (.inl (.int, n', .inl f)) => if nI k < 0 ∨ n' ≤ (nI k).toNatClampNeg then none else some (f (nI k).toNatClampNeg) | _ => none) = _
  rw [RO_19 hq]
  show (if nI k < 0 ∨ 24 ≤ (nI k).toNatClampNeg then none else some _) = _
  rw [if_neg (k_in hk (by decide)), nI_clamp (by omega)]
theorem c_p_19 {sh : Nat} {kd kz : Nat → Nat} {ko : Nat → Int32} {q1 q2 q3 cp : Nat} {so ki : Nat → Nat} {nu : Nat → Int64} {no sp : Nat} {hn sl ah : Nat → Nat} {he fr : Nat} {ou : Nat → Int64} {tol bx rws ma dpd isl inn atk : Nat} {g : Nat → Option am_E} {n m : Nat} {k : Nat} {x : Nat} (hk : k < 24) (hq : OKq q1 q2 q3) : am_pi (n, m, RO sh kd kz ko q1 q2 q3 cp so ki nu no sp hn sl ah he fr ou tol bx rws ma dpd isl inn atk g) 19 (nI k) (nI x) = some (n, m, RO sh (upN kd k x) kz ko q1 q2 q3 cp so ki nu no sp hn sl ah he fr ou tol bx rws ma dpd isl inn atk g) := by
  show (match RO sh kd kz ko q1 q2 q3 cp so ki nu no sp hn sl ah he fr ou tol bx rws ma dpd isl inn atk g 19 with | some (.inl (.int, n', .inl f)) => if 19 = 0 ∨ nI k < 0 ∨ n' ≤ (nI k).toNatClampNeg then none else some (am_up (n, m, RO sh kd kz ko q1 q2 q3 cp so ki nu no sp hn sl ah he fr ou tol bx rws ma dpd isl inn atk g) 19 (.inl (.int, n', .inl (upd f (nI k).toNatClampNeg (nI x))))) | _ => none) = _
  rw [RO_19 hq]
  show (if 19 = 0 ∨ nI k < 0 ∨ 24 ≤ (nI k).toNatClampNeg then none else some _) = _
  rw [if_neg (fun z => z.elim (by decide) (k_in hk (by decide))), nI_clamp (by omega)]
  refine congrArg some (Prod.ext rfl (Prod.ext rfl ?_))
  exact ovl_up (f2 := RF sh (upN kd k x) kz ko q1 q2 q3 cp so ki nu no sp hn sl ah he fr ou tol bx rws ma dpd isl inn atk g) (e := .inl (.int, 24, .inl (upd (fun j => nI (kd j)) k (nI x)))) (hq.2 19 (by decide)) (by show some (Sum.inl (_, _, Sum.inl (fun j => nI (upN kd k x j)))) = _; rw [← upN_i]) (fun p hp => by unfold RF; split <;> first | rfl | exact absurd rfl hp)
theorem c_g_20 {sh : Nat} {kd kz : Nat → Nat} {ko : Nat → Int32} {q1 q2 q3 cp : Nat} {so ki : Nat → Nat} {nu : Nat → Int64} {no sp : Nat} {hn sl ah : Nat → Nat} {he fr : Nat} {ou : Nat → Int64} {tol bx rws ma dpd isl inn atk : Nat} {g : Nat → Option am_E} {n m : Nat} {k : Nat} (hk : k < 24) (hq : OKq q1 q2 q3) : am_gi (n, m, RO sh kd kz ko q1 q2 q3 cp so ki nu no sp hn sl ah he fr ou tol bx rws ma dpd isl inn atk g) 20 (nI k) = some (nI (kz k)) := by
  show (match RO sh kd kz ko q1 q2 q3 cp so ki nu no sp hn sl ah he fr ou tol bx rws ma dpd isl inn atk g 20 with | some (.inl (.int, n', .inl f)) => if nI k < 0 ∨ n' ≤ (nI k).toNatClampNeg then none else some (f (nI k).toNatClampNeg) | _ => none) = _
  rw [RO_20 hq]
  show (if nI k < 0 ∨ 24 ≤ (nI k).toNatClampNeg then none else some _) = _
  rw [if_neg (k_in hk (by decide)), nI_clamp (by omega)]
theorem c_p_20 {sh : Nat} {kd kz : Nat → Nat} {ko : Nat → Int32} {q1 q2 q3 cp : Nat} {so ki : Nat → Nat} {nu : Nat → Int64} {no sp : Nat} {hn sl ah : Nat → Nat} {he fr : Nat} {ou : Nat → Int64} {tol bx rws ma dpd isl inn atk : Nat} {g : Nat → Option am_E} {n m : Nat} {k : Nat} {x : Nat} (hk : k < 24) (hq : OKq q1 q2 q3) : am_pi (n, m, RO sh kd kz ko q1 q2 q3 cp so ki nu no sp hn sl ah he fr ou tol bx rws ma dpd isl inn atk g) 20 (nI k) (nI x) = some (n, m, RO sh kd (upN kz k x) ko q1 q2 q3 cp so ki nu no sp hn sl ah he fr ou tol bx rws ma dpd isl inn atk g) := by
  show (match RO sh kd kz ko q1 q2 q3 cp so ki nu no sp hn sl ah he fr ou tol bx rws ma dpd isl inn atk g 20 with | some (.inl (.int, n', .inl f)) => if 20 = 0 ∨ nI k < 0 ∨ n' ≤ (nI k).toNatClampNeg then none else some (am_up (n, m, RO sh kd kz ko q1 q2 q3 cp so ki nu no sp hn sl ah he fr ou tol bx rws ma dpd isl inn atk g) 20 (.inl (.int, n', .inl (upd f (nI k).toNatClampNeg (nI x))))) | _ => none) = _
  rw [RO_20 hq]
  show (if 20 = 0 ∨ nI k < 0 ∨ 24 ≤ (nI k).toNatClampNeg then none else some _) = _
  rw [if_neg (fun z => z.elim (by decide) (k_in hk (by decide))), nI_clamp (by omega)]
  refine congrArg some (Prod.ext rfl (Prod.ext rfl ?_))
  exact ovl_up (f2 := RF sh kd (upN kz k x) ko q1 q2 q3 cp so ki nu no sp hn sl ah he fr ou tol bx rws ma dpd isl inn atk g) (e := .inl (.int, 24, .inl (upd (fun j => nI (kz j)) k (nI x)))) (hq.2 20 (by decide)) (by show some (Sum.inl (_, _, Sum.inl (fun j => nI (upN kz k x j)))) = _; rw [← upN_i]) (fun p hp => by unfold RF; split <;> first | rfl | exact absurd rfl hp)
theorem c_g_21 {sh : Nat} {kd kz : Nat → Nat} {ko : Nat → Int32} {q1 q2 q3 cp : Nat} {so ki : Nat → Nat} {nu : Nat → Int64} {no sp : Nat} {hn sl ah : Nat → Nat} {he fr : Nat} {ou : Nat → Int64} {tol bx rws ma dpd isl inn atk : Nat} {g : Nat → Option am_E} {n m : Nat} {k : Nat} (hk : k < 72) (hq : OKq q1 q2 q3) : am_gi (n, m, RO sh kd kz ko q1 q2 q3 cp so ki nu no sp hn sl ah he fr ou tol bx rws ma dpd isl inn atk g) 21 (nI k) = some (ko k) := by
  show (match RO sh kd kz ko q1 q2 q3 cp so ki nu no sp hn sl ah he fr ou tol bx rws ma dpd isl inn atk g 21 with | some (.inl (.int, n', .inl f)) => if nI k < 0 ∨ n' ≤ (nI k).toNatClampNeg then none else some (f (nI k).toNatClampNeg) | _ => none) = _
  rw [RO_21 hq]
  show (if nI k < 0 ∨ 72 ≤ (nI k).toNatClampNeg then none else some _) = _
  rw [if_neg (k_in hk (by decide)), nI_clamp (by omega)]
theorem c_p_21 {sh : Nat} {kd kz : Nat → Nat} {ko : Nat → Int32} {q1 q2 q3 cp : Nat} {so ki : Nat → Nat} {nu : Nat → Int64} {no sp : Nat} {hn sl ah : Nat → Nat} {he fr : Nat} {ou : Nat → Int64} {tol bx rws ma dpd isl inn atk : Nat} {g : Nat → Option am_E} {n m : Nat} {k : Nat} {x : Int32} (hk : k < 72) (hq : OKq q1 q2 q3) : am_pi (n, m, RO sh kd kz ko q1 q2 q3 cp so ki nu no sp hn sl ah he fr ou tol bx rws ma dpd isl inn atk g) 21 (nI k) x = some (n, m, RO sh kd kz (upN ko k x) q1 q2 q3 cp so ki nu no sp hn sl ah he fr ou tol bx rws ma dpd isl inn atk g) := by
  show (match RO sh kd kz ko q1 q2 q3 cp so ki nu no sp hn sl ah he fr ou tol bx rws ma dpd isl inn atk g 21 with | some (.inl (.int, n', .inl f)) => if 21 = 0 ∨ nI k < 0 ∨ n' ≤ (nI k).toNatClampNeg then none else some (am_up (n, m, RO sh kd kz ko q1 q2 q3 cp so ki nu no sp hn sl ah he fr ou tol bx rws ma dpd isl inn atk g) 21 (.inl (.int, n', .inl (upd f (nI k).toNatClampNeg x)))) | _ => none) = _
  rw [RO_21 hq]
  show (if 21 = 0 ∨ nI k < 0 ∨ 72 ≤ (nI k).toNatClampNeg then none else some _) = _
  rw [if_neg (fun z => z.elim (by decide) (k_in hk (by decide))), nI_clamp (by omega)]
  refine congrArg some (Prod.ext rfl (Prod.ext rfl ?_))
  exact ovl_up (f2 := RF sh kd kz (upN ko k x) q1 q2 q3 cp so ki nu no sp hn sl ah he fr ou tol bx rws ma dpd isl inn atk g) (e := .inl (.int, 72, .inl (upd ko k x))) (hq.2 21 (by decide)) rfl (fun p hp => by unfold RF; split <;> first | rfl | exact absurd rfl hp)
theorem c_g_25 {sh : Nat} {kd kz : Nat → Nat} {ko : Nat → Int32} {q1 q2 q3 cp : Nat} {so ki : Nat → Nat} {nu : Nat → Int64} {no sp : Nat} {hn sl ah : Nat → Nat} {he fr : Nat} {ou : Nat → Int64} {tol bx rws ma dpd isl inn atk : Nat} {g : Nat → Option am_E} {n m : Nat} {k : Nat} (hk : k < 24) (hq : OKq q1 q2 q3) : am_gi (n, m, RO sh kd kz ko q1 q2 q3 cp so ki nu no sp hn sl ah he fr ou tol bx rws ma dpd isl inn atk g) 25 (nI k) = some (nI (hn k)) := by
  show (match RO sh kd kz ko q1 q2 q3 cp so ki nu no sp hn sl ah he fr ou tol bx rws ma dpd isl inn atk g 25 with | some (.inl (.int, n', .inl f)) => if nI k < 0 ∨ n' ≤ (nI k).toNatClampNeg then none else some (f (nI k).toNatClampNeg) | _ => none) = _
  rw [RO_25 hq]
  show (if nI k < 0 ∨ 24 ≤ (nI k).toNatClampNeg then none else some _) = _
  rw [if_neg (k_in hk (by decide)), nI_clamp (by omega)]
theorem c_p_25 {sh : Nat} {kd kz : Nat → Nat} {ko : Nat → Int32} {q1 q2 q3 cp : Nat} {so ki : Nat → Nat} {nu : Nat → Int64} {no sp : Nat} {hn sl ah : Nat → Nat} {he fr : Nat} {ou : Nat → Int64} {tol bx rws ma dpd isl inn atk : Nat} {g : Nat → Option am_E} {n m : Nat} {k : Nat} {x : Nat} (hk : k < 24) (hq : OKq q1 q2 q3) : am_pi (n, m, RO sh kd kz ko q1 q2 q3 cp so ki nu no sp hn sl ah he fr ou tol bx rws ma dpd isl inn atk g) 25 (nI k) (nI x) = some (n, m, RO sh kd kz ko q1 q2 q3 cp so ki nu no sp (upN hn k x) sl ah he fr ou tol bx rws ma dpd isl inn atk g) := by
  show (match RO sh kd kz ko q1 q2 q3 cp so ki nu no sp hn sl ah he fr ou tol bx rws ma dpd isl inn atk g 25 with | some (.inl (.int, n', .inl f)) => if 25 = 0 ∨ nI k < 0 ∨ n' ≤ (nI k).toNatClampNeg then none else some (am_up (n, m, RO sh kd kz ko q1 q2 q3 cp so ki nu no sp hn sl ah he fr ou tol bx rws ma dpd isl inn atk g) 25 (.inl (.int, n', .inl (upd f (nI k).toNatClampNeg (nI x))))) | _ => none) = _
  rw [RO_25 hq]
  show (if 25 = 0 ∨ nI k < 0 ∨ 24 ≤ (nI k).toNatClampNeg then none else some _) = _
  rw [if_neg (fun z => z.elim (by decide) (k_in hk (by decide))), nI_clamp (by omega)]
  refine congrArg some (Prod.ext rfl (Prod.ext rfl ?_))
  exact ovl_up (f2 := RF sh kd kz ko q1 q2 q3 cp so ki nu no sp (upN hn k x) sl ah he fr ou tol bx rws ma dpd isl inn atk g) (e := .inl (.int, 24, .inl (upd (fun j => nI (hn j)) k (nI x)))) (hq.2 25 (by decide)) (by show some (Sum.inl (_, _, Sum.inl (fun j => nI (upN hn k x j)))) = _; rw [← upN_i]) (fun p hp => by unfold RF; split <;> first | rfl | exact absurd rfl hp)
theorem c_g_26 {sh : Nat} {kd kz : Nat → Nat} {ko : Nat → Int32} {q1 q2 q3 cp : Nat} {so ki : Nat → Nat} {nu : Nat → Int64} {no sp : Nat} {hn sl ah : Nat → Nat} {he fr : Nat} {ou : Nat → Int64} {tol bx rws ma dpd isl inn atk : Nat} {g : Nat → Option am_E} {n m : Nat} {k : Nat} (hk : k < 96) (hq : OKq q1 q2 q3) : am_gi (n, m, RO sh kd kz ko q1 q2 q3 cp so ki nu no sp hn sl ah he fr ou tol bx rws ma dpd isl inn atk g) 26 (nI k) = some (nI (sl k)) := by
  show (match RO sh kd kz ko q1 q2 q3 cp so ki nu no sp hn sl ah he fr ou tol bx rws ma dpd isl inn atk g 26 with | some (.inl (.int, n', .inl f)) => if nI k < 0 ∨ n' ≤ (nI k).toNatClampNeg then none else some (f (nI k).toNatClampNeg) | _ => none) = _
  rw [RO_26 hq]
  show (if nI k < 0 ∨ 96 ≤ (nI k).toNatClampNeg then none else some _) = _
  rw [if_neg (k_in hk (by decide)), nI_clamp (by omega)]
theorem c_p_26 {sh : Nat} {kd kz : Nat → Nat} {ko : Nat → Int32} {q1 q2 q3 cp : Nat} {so ki : Nat → Nat} {nu : Nat → Int64} {no sp : Nat} {hn sl ah : Nat → Nat} {he fr : Nat} {ou : Nat → Int64} {tol bx rws ma dpd isl inn atk : Nat} {g : Nat → Option am_E} {n m : Nat} {k : Nat} {x : Nat} (hk : k < 96) (hq : OKq q1 q2 q3) : am_pi (n, m, RO sh kd kz ko q1 q2 q3 cp so ki nu no sp hn sl ah he fr ou tol bx rws ma dpd isl inn atk g) 26 (nI k) (nI x) = some (n, m, RO sh kd kz ko q1 q2 q3 cp so ki nu no sp hn (upN sl k x) ah he fr ou tol bx rws ma dpd isl inn atk g) := by
  show (match RO sh kd kz ko q1 q2 q3 cp so ki nu no sp hn sl ah he fr ou tol bx rws ma dpd isl inn atk g 26 with | some (.inl (.int, n', .inl f)) => if 26 = 0 ∨ nI k < 0 ∨ n' ≤ (nI k).toNatClampNeg then none else some (am_up (n, m, RO sh kd kz ko q1 q2 q3 cp so ki nu no sp hn sl ah he fr ou tol bx rws ma dpd isl inn atk g) 26 (.inl (.int, n', .inl (upd f (nI k).toNatClampNeg (nI x))))) | _ => none) = _
  rw [RO_26 hq]
  show (if 26 = 0 ∨ nI k < 0 ∨ 96 ≤ (nI k).toNatClampNeg then none else some _) = _
  rw [if_neg (fun z => z.elim (by decide) (k_in hk (by decide))), nI_clamp (by omega)]
  refine congrArg some (Prod.ext rfl (Prod.ext rfl ?_))
  exact ovl_up (f2 := RF sh kd kz ko q1 q2 q3 cp so ki nu no sp hn (upN sl k x) ah he fr ou tol bx rws ma dpd isl inn atk g) (e := .inl (.int, 96, .inl (upd (fun j => nI (sl j)) k (nI x)))) (hq.2 26 (by decide)) (by show some (Sum.inl (_, _, Sum.inl (fun j => nI (upN sl k x j)))) = _; rw [← upN_i]) (fun p hp => by unfold RF; split <;> first | rfl | exact absurd rfl hp)
theorem c_g_27 {sh : Nat} {kd kz : Nat → Nat} {ko : Nat → Int32} {q1 q2 q3 cp : Nat} {so ki : Nat → Nat} {nu : Nat → Int64} {no sp : Nat} {hn sl ah : Nat → Nat} {he fr : Nat} {ou : Nat → Int64} {tol bx rws ma dpd isl inn atk : Nat} {g : Nat → Option am_E} {n m : Nat} {k : Nat} (hk : k < 13) (hq : OKq q1 q2 q3) : am_gi (n, m, RO sh kd kz ko q1 q2 q3 cp so ki nu no sp hn sl ah he fr ou tol bx rws ma dpd isl inn atk g) 27 (nI k) = some (nI (ah k)) := by
  show (match RO sh kd kz ko q1 q2 q3 cp so ki nu no sp hn sl ah he fr ou tol bx rws ma dpd isl inn atk g 27 with | some (.inl (.int, n', .inl f)) => if nI k < 0 ∨ n' ≤ (nI k).toNatClampNeg then none else some (f (nI k).toNatClampNeg) | _ => none) = _
  rw [RO_27 hq]
  show (if nI k < 0 ∨ 13 ≤ (nI k).toNatClampNeg then none else some _) = _
  rw [if_neg (k_in hk (by decide)), nI_clamp (by omega)]
theorem c_p_27 {sh : Nat} {kd kz : Nat → Nat} {ko : Nat → Int32} {q1 q2 q3 cp : Nat} {so ki : Nat → Nat} {nu : Nat → Int64} {no sp : Nat} {hn sl ah : Nat → Nat} {he fr : Nat} {ou : Nat → Int64} {tol bx rws ma dpd isl inn atk : Nat} {g : Nat → Option am_E} {n m : Nat} {k : Nat} {x : Nat} (hk : k < 13) (hq : OKq q1 q2 q3) : am_pi (n, m, RO sh kd kz ko q1 q2 q3 cp so ki nu no sp hn sl ah he fr ou tol bx rws ma dpd isl inn atk g) 27 (nI k) (nI x) = some (n, m, RO sh kd kz ko q1 q2 q3 cp so ki nu no sp hn sl (upN ah k x) he fr ou tol bx rws ma dpd isl inn atk g) := by
  show (match RO sh kd kz ko q1 q2 q3 cp so ki nu no sp hn sl ah he fr ou tol bx rws ma dpd isl inn atk g 27 with | some (.inl (.int, n', .inl f)) => if 27 = 0 ∨ nI k < 0 ∨ n' ≤ (nI k).toNatClampNeg then none else some (am_up (n, m, RO sh kd kz ko q1 q2 q3 cp so ki nu no sp hn sl ah he fr ou tol bx rws ma dpd isl inn atk g) 27 (.inl (.int, n', .inl (upd f (nI k).toNatClampNeg (nI x))))) | _ => none) = _
  rw [RO_27 hq]
  show (if 27 = 0 ∨ nI k < 0 ∨ 13 ≤ (nI k).toNatClampNeg then none else some _) = _
  rw [if_neg (fun z => z.elim (by decide) (k_in hk (by decide))), nI_clamp (by omega)]
  refine congrArg some (Prod.ext rfl (Prod.ext rfl ?_))
  exact ovl_up (f2 := RF sh kd kz ko q1 q2 q3 cp so ki nu no sp hn sl (upN ah k x) he fr ou tol bx rws ma dpd isl inn atk g) (e := .inl (.int, 13, .inl (upd (fun j => nI (ah j)) k (nI x)))) (hq.2 27 (by decide)) (by show some (Sum.inl (_, _, Sum.inl (fun j => nI (upN ah k x j)))) = _; rw [← upN_i]) (fun p hp => by unfold RF; split <;> first | rfl | exact absurd rfl hp)
theorem c_g_28 {sh : Nat} {kd kz : Nat → Nat} {ko : Nat → Int32} {q1 q2 q3 cp : Nat} {so ki : Nat → Nat} {nu : Nat → Int64} {no sp : Nat} {hn sl ah : Nat → Nat} {he fr : Nat} {ou : Nat → Int64} {tol bx rws ma dpd isl inn atk : Nat} {g : Nat → Option am_E} {n m : Nat} {k : Nat} (hk : k < 400) (hq : OKq q1 q2 q3) : am_gl (n, m, RO sh kd kz ko q1 q2 q3 cp so ki nu no sp hn sl ah he fr ou tol bx rws ma dpd isl inn atk g) 28 (nI k) = some (ou k) := by
  show (match RO sh kd kz ko q1 q2 q3 cp so ki nu no sp hn sl ah he fr ou tol bx rws ma dpd isl inn atk g 28 with | some (.inl (.long, n', .inr (.inl f))) => if nI k < 0 ∨ n' ≤ (nI k).toNatClampNeg then none else some (f (nI k).toNatClampNeg) | _ => none) = _
  rw [RO_28 hq]
  show (if nI k < 0 ∨ 400 ≤ (nI k).toNatClampNeg then none else some _) = _
  rw [if_neg (k_in hk (by decide)), nI_clamp (by omega)]
theorem c_p_28 {sh : Nat} {kd kz : Nat → Nat} {ko : Nat → Int32} {q1 q2 q3 cp : Nat} {so ki : Nat → Nat} {nu : Nat → Int64} {no sp : Nat} {hn sl ah : Nat → Nat} {he fr : Nat} {ou : Nat → Int64} {tol bx rws ma dpd isl inn atk : Nat} {g : Nat → Option am_E} {n m : Nat} {k : Nat} {x : Int64} (hk : k < 400) (hq : OKq q1 q2 q3) : am_pl (n, m, RO sh kd kz ko q1 q2 q3 cp so ki nu no sp hn sl ah he fr ou tol bx rws ma dpd isl inn atk g) 28 (nI k) x = some (n, m, RO sh kd kz ko q1 q2 q3 cp so ki nu no sp hn sl ah he fr (upN ou k x) tol bx rws ma dpd isl inn atk g) := by
  show (match RO sh kd kz ko q1 q2 q3 cp so ki nu no sp hn sl ah he fr ou tol bx rws ma dpd isl inn atk g 28 with | some (.inl (.long, n', .inr (.inl f))) => if 28 = 0 ∨ nI k < 0 ∨ n' ≤ (nI k).toNatClampNeg then none else some (am_up (n, m, RO sh kd kz ko q1 q2 q3 cp so ki nu no sp hn sl ah he fr ou tol bx rws ma dpd isl inn atk g) 28 (.inl (.long, n', .inr (.inl (vp_updL f (nI k).toNatClampNeg x))))) | _ => none) = _
  rw [RO_28 hq]
  show (if 28 = 0 ∨ nI k < 0 ∨ 400 ≤ (nI k).toNatClampNeg then none else some _) = _
  rw [if_neg (fun z => z.elim (by decide) (k_in hk (by decide))), nI_clamp (by omega)]
  refine congrArg some (Prod.ext rfl (Prod.ext rfl ?_))
  exact ovl_up (f2 := RF sh kd kz ko q1 q2 q3 cp so ki nu no sp hn sl ah he fr (upN ou k x) tol bx rws ma dpd isl inn atk g) (e := .inl (.long, 400, .inr (.inl (vp_updL ou k x)))) (hq.2 28 (by decide)) rfl (fun p hp => by unfold RF; split <;> first | rfl | exact absurd rfl hp)
theorem RO_q1 {sh : Nat} {kd kz : Nat → Nat} {ko : Nat → Int32} {q1 q2 q3 cp : Nat} {so ki : Nat → Nat} {nu : Nat → Int64} {no sp : Nat} {hn sl ah : Nat → Nat} {he fr : Nat} {ou : Nat → Int64} {tol bx rws ma dpd isl inn atk : Nat} {g : Nat → Option am_E} (hq : OKq q1 q2 q3) : RO sh kd kz ko q1 q2 q3 cp so ki nu no sp hn sl ah he fr ou tol bx rws ma dpd isl inn atk g q1 = some (.inl (.int, cp, .inl (fun j => nI (so j)))) := by
  unfold RO
  rw [ovl_1]
theorem c_g_q1 {sh : Nat} {kd kz : Nat → Nat} {ko : Nat → Int32} {q1 q2 q3 cp : Nat} {so ki : Nat → Nat} {nu : Nat → Int64} {no sp : Nat} {hn sl ah : Nat → Nat} {he fr : Nat} {ou : Nat → Int64} {tol bx rws ma dpd isl inn atk : Nat} {g : Nat → Option am_E} {n m : Nat} {k : Nat} (hk : k < cp) (hc : cp < 100000) (hq : OKq q1 q2 q3) : am_gi (n, m, RO sh kd kz ko q1 q2 q3 cp so ki nu no sp hn sl ah he fr ou tol bx rws ma dpd isl inn atk g) q1 (nI k) = some (nI (so k)) := by
  show (match RO sh kd kz ko q1 q2 q3 cp so ki nu no sp hn sl ah he fr ou tol bx rws ma dpd isl inn atk g q1 with | some (.inl (.int, n', .inl f)) => if nI k < 0 ∨ n' ≤ (nI k).toNatClampNeg then none else some (f (nI k).toNatClampNeg) | _ => none) = _
  rw [RO_q1 hq]
  show (if nI k < 0 ∨ cp ≤ (nI k).toNatClampNeg then none else some _) = _
  rw [if_neg (k_in hk (by omega)), nI_clamp (by omega)]
theorem c_ln_q1 {sh : Nat} {kd kz : Nat → Nat} {ko : Nat → Int32} {q1 q2 q3 cp : Nat} {so ki : Nat → Nat} {nu : Nat → Int64} {no sp : Nat} {hn sl ah : Nat → Nat} {he fr : Nat} {ou : Nat → Int64} {tol bx rws ma dpd isl inn atk : Nat} {g : Nat → Option am_E} {n m : Nat} (hq : OKq q1 q2 q3) : am_ln (n, m, RO sh kd kz ko q1 q2 q3 cp so ki nu no sp hn sl ah he fr ou tol bx rws ma dpd isl inn atk g) q1 = some (cp) := by
  show (match RO sh kd kz ko q1 q2 q3 cp so ki nu no sp hn sl ah he fr ou tol bx rws ma dpd isl inn atk g q1 with | some (.inl (.int, n', .inl _)) => some n' | some (.inl (.boolean, n', .inl _)) => some n' | some (.inl (.long, n', .inr (.inl _))) => some n' | _ => none) = _
  rw [RO_q1 hq]
theorem c_p_q1 {sh : Nat} {kd kz : Nat → Nat} {ko : Nat → Int32} {q1 q2 q3 cp : Nat} {so ki : Nat → Nat} {nu : Nat → Int64} {no sp : Nat} {hn sl ah : Nat → Nat} {he fr : Nat} {ou : Nat → Int64} {tol bx rws ma dpd isl inn atk : Nat} {g : Nat → Option am_E} {n m : Nat} {k : Nat} {x : Nat} (hk : k < cp) (hc : cp < 100000) (h0 : q1 ≠ 0) (hq : OKq q1 q2 q3) : am_pi (n, m, RO sh kd kz ko q1 q2 q3 cp so ki nu no sp hn sl ah he fr ou tol bx rws ma dpd isl inn atk g) q1 (nI k) (nI x) = some (n, m, RO sh kd kz ko q1 q2 q3 cp (upN so k x) ki nu no sp hn sl ah he fr ou tol bx rws ma dpd isl inn atk g) := by
  show (match RO sh kd kz ko q1 q2 q3 cp so ki nu no sp hn sl ah he fr ou tol bx rws ma dpd isl inn atk g q1 with | some (.inl (.int, n', .inl f)) => if q1 = 0 ∨ nI k < 0 ∨ n' ≤ (nI k).toNatClampNeg then none else some (am_up (n, m, RO sh kd kz ko q1 q2 q3 cp so ki nu no sp hn sl ah he fr ou tol bx rws ma dpd isl inn atk g) q1 (.inl (.int, n', .inl (upd f (nI k).toNatClampNeg (nI x))))) | _ => none) = _
  rw [RO_q1 hq]
  show (if q1 = 0 ∨ nI k < 0 ∨ cp ≤ (nI k).toNatClampNeg then none else some _) = _
  rw [if_neg (fun z => z.elim h0 (k_in hk (by omega))), nI_clamp (by omega)]
  refine congrArg some (Prod.ext rfl (Prod.ext rfl ?_))
  show (fun k' => if k' = q1 then some (Sum.inl (FieldType.int, cp, Sum.inl (upd (fun j => nI (so j)) k (nI x)))) else RO sh kd kz ko q1 q2 q3 cp so ki nu no sp hn sl ah he fr ou tol bx rws ma dpd isl inn atk g k') = _
  rw [upN_i]
  exact ovl_u1
theorem RO_q2 {sh : Nat} {kd kz : Nat → Nat} {ko : Nat → Int32} {q1 q2 q3 cp : Nat} {so ki : Nat → Nat} {nu : Nat → Int64} {no sp : Nat} {hn sl ah : Nat → Nat} {he fr : Nat} {ou : Nat → Int64} {tol bx rws ma dpd isl inn atk : Nat} {g : Nat → Option am_E} (hq : OKq q1 q2 q3) : RO sh kd kz ko q1 q2 q3 cp so ki nu no sp hn sl ah he fr ou tol bx rws ma dpd isl inn atk g q2 = some (.inl (.int, 8 * cp, .inl (fun j => nI (ki j)))) := by
  unfold RO
  rw [ovl_2 hq]
theorem c_g_q2 {sh : Nat} {kd kz : Nat → Nat} {ko : Nat → Int32} {q1 q2 q3 cp : Nat} {so ki : Nat → Nat} {nu : Nat → Int64} {no sp : Nat} {hn sl ah : Nat → Nat} {he fr : Nat} {ou : Nat → Int64} {tol bx rws ma dpd isl inn atk : Nat} {g : Nat → Option am_E} {n m : Nat} {k : Nat} (hk : k < 8 * cp) (hc : cp < 100000) (hq : OKq q1 q2 q3) : am_gi (n, m, RO sh kd kz ko q1 q2 q3 cp so ki nu no sp hn sl ah he fr ou tol bx rws ma dpd isl inn atk g) q2 (nI k) = some (nI (ki k)) := by
  show (match RO sh kd kz ko q1 q2 q3 cp so ki nu no sp hn sl ah he fr ou tol bx rws ma dpd isl inn atk g q2 with | some (.inl (.int, n', .inl f)) => if nI k < 0 ∨ n' ≤ (nI k).toNatClampNeg then none else some (f (nI k).toNatClampNeg) | _ => none) = _
  rw [RO_q2 hq]
  show (if nI k < 0 ∨ 8 * cp ≤ (nI k).toNatClampNeg then none else some _) = _
  rw [if_neg (k_in hk (by omega)), nI_clamp (by omega)]
theorem c_ln_q2 {sh : Nat} {kd kz : Nat → Nat} {ko : Nat → Int32} {q1 q2 q3 cp : Nat} {so ki : Nat → Nat} {nu : Nat → Int64} {no sp : Nat} {hn sl ah : Nat → Nat} {he fr : Nat} {ou : Nat → Int64} {tol bx rws ma dpd isl inn atk : Nat} {g : Nat → Option am_E} {n m : Nat} (hq : OKq q1 q2 q3) : am_ln (n, m, RO sh kd kz ko q1 q2 q3 cp so ki nu no sp hn sl ah he fr ou tol bx rws ma dpd isl inn atk g) q2 = some (8 * cp) := by
  show (match RO sh kd kz ko q1 q2 q3 cp so ki nu no sp hn sl ah he fr ou tol bx rws ma dpd isl inn atk g q2 with | some (.inl (.int, n', .inl _)) => some n' | some (.inl (.boolean, n', .inl _)) => some n' | some (.inl (.long, n', .inr (.inl _))) => some n' | _ => none) = _
  rw [RO_q2 hq]
theorem c_p_q2 {sh : Nat} {kd kz : Nat → Nat} {ko : Nat → Int32} {q1 q2 q3 cp : Nat} {so ki : Nat → Nat} {nu : Nat → Int64} {no sp : Nat} {hn sl ah : Nat → Nat} {he fr : Nat} {ou : Nat → Int64} {tol bx rws ma dpd isl inn atk : Nat} {g : Nat → Option am_E} {n m : Nat} {k : Nat} {x : Nat} (hk : k < 8 * cp) (hc : cp < 100000) (h0 : q2 ≠ 0) (hq : OKq q1 q2 q3) : am_pi (n, m, RO sh kd kz ko q1 q2 q3 cp so ki nu no sp hn sl ah he fr ou tol bx rws ma dpd isl inn atk g) q2 (nI k) (nI x) = some (n, m, RO sh kd kz ko q1 q2 q3 cp so (upN ki k x) nu no sp hn sl ah he fr ou tol bx rws ma dpd isl inn atk g) := by
  show (match RO sh kd kz ko q1 q2 q3 cp so ki nu no sp hn sl ah he fr ou tol bx rws ma dpd isl inn atk g q2 with | some (.inl (.int, n', .inl f)) => if q2 = 0 ∨ nI k < 0 ∨ n' ≤ (nI k).toNatClampNeg then none else some (am_up (n, m, RO sh kd kz ko q1 q2 q3 cp so ki nu no sp hn sl ah he fr ou tol bx rws ma dpd isl inn atk g) q2 (.inl (.int, n', .inl (upd f (nI k).toNatClampNeg (nI x))))) | _ => none) = _
  rw [RO_q2 hq]
  show (if q2 = 0 ∨ nI k < 0 ∨ 8 * cp ≤ (nI k).toNatClampNeg then none else some _) = _
  rw [if_neg (fun z => z.elim h0 (k_in hk (by omega))), nI_clamp (by omega)]
  refine congrArg some (Prod.ext rfl (Prod.ext rfl ?_))
  show (fun k' => if k' = q2 then some (Sum.inl (FieldType.int, 8 * cp, Sum.inl (upd (fun j => nI (ki j)) k (nI x)))) else RO sh kd kz ko q1 q2 q3 cp so ki nu no sp hn sl ah he fr ou tol bx rws ma dpd isl inn atk g k') = _
  rw [upN_i]
  exact ovl_u2 hq
theorem RO_q3 {sh : Nat} {kd kz : Nat → Nat} {ko : Nat → Int32} {q1 q2 q3 cp : Nat} {so ki : Nat → Nat} {nu : Nat → Int64} {no sp : Nat} {hn sl ah : Nat → Nat} {he fr : Nat} {ou : Nat → Int64} {tol bx rws ma dpd isl inn atk : Nat} {g : Nat → Option am_E} (hq : OKq q1 q2 q3) : RO sh kd kz ko q1 q2 q3 cp so ki nu no sp hn sl ah he fr ou tol bx rws ma dpd isl inn atk g q3 = some (.inl (.long, cp, .inr (.inl nu))) := by
  unfold RO
  rw [ovl_3 hq]
theorem c_g_q3 {sh : Nat} {kd kz : Nat → Nat} {ko : Nat → Int32} {q1 q2 q3 cp : Nat} {so ki : Nat → Nat} {nu : Nat → Int64} {no sp : Nat} {hn sl ah : Nat → Nat} {he fr : Nat} {ou : Nat → Int64} {tol bx rws ma dpd isl inn atk : Nat} {g : Nat → Option am_E} {n m : Nat} {k : Nat} (hk : k < cp) (hc : cp < 100000) (hq : OKq q1 q2 q3) : am_gl (n, m, RO sh kd kz ko q1 q2 q3 cp so ki nu no sp hn sl ah he fr ou tol bx rws ma dpd isl inn atk g) q3 (nI k) = some (nu k) := by
  show (match RO sh kd kz ko q1 q2 q3 cp so ki nu no sp hn sl ah he fr ou tol bx rws ma dpd isl inn atk g q3 with | some (.inl (.long, n', .inr (.inl f))) => if nI k < 0 ∨ n' ≤ (nI k).toNatClampNeg then none else some (f (nI k).toNatClampNeg) | _ => none) = _
  rw [RO_q3 hq]
  show (if nI k < 0 ∨ cp ≤ (nI k).toNatClampNeg then none else some _) = _
  rw [if_neg (k_in hk (by omega)), nI_clamp (by omega)]
theorem c_ln_q3 {sh : Nat} {kd kz : Nat → Nat} {ko : Nat → Int32} {q1 q2 q3 cp : Nat} {so ki : Nat → Nat} {nu : Nat → Int64} {no sp : Nat} {hn sl ah : Nat → Nat} {he fr : Nat} {ou : Nat → Int64} {tol bx rws ma dpd isl inn atk : Nat} {g : Nat → Option am_E} {n m : Nat} (hq : OKq q1 q2 q3) : am_ln (n, m, RO sh kd kz ko q1 q2 q3 cp so ki nu no sp hn sl ah he fr ou tol bx rws ma dpd isl inn atk g) q3 = some (cp) := by
  show (match RO sh kd kz ko q1 q2 q3 cp so ki nu no sp hn sl ah he fr ou tol bx rws ma dpd isl inn atk g q3 with | some (.inl (.int, n', .inl _)) => some n' | some (.inl (.boolean, n', .inl _)) => some n' | some (.inl (.long, n', .inr (.inl _))) => some n' | _ => none) = _
  rw [RO_q3 hq]
theorem c_p_q3 {sh : Nat} {kd kz : Nat → Nat} {ko : Nat → Int32} {q1 q2 q3 cp : Nat} {so ki : Nat → Nat} {nu : Nat → Int64} {no sp : Nat} {hn sl ah : Nat → Nat} {he fr : Nat} {ou : Nat → Int64} {tol bx rws ma dpd isl inn atk : Nat} {g : Nat → Option am_E} {n m : Nat} {k : Nat} {x : Int64} (hk : k < cp) (hc : cp < 100000) (h0 : q3 ≠ 0) (hq : OKq q1 q2 q3) : am_pl (n, m, RO sh kd kz ko q1 q2 q3 cp so ki nu no sp hn sl ah he fr ou tol bx rws ma dpd isl inn atk g) q3 (nI k) x = some (n, m, RO sh kd kz ko q1 q2 q3 cp so ki (upN nu k x) no sp hn sl ah he fr ou tol bx rws ma dpd isl inn atk g) := by
  show (match RO sh kd kz ko q1 q2 q3 cp so ki nu no sp hn sl ah he fr ou tol bx rws ma dpd isl inn atk g q3 with | some (.inl (.long, n', .inr (.inl f))) => if q3 = 0 ∨ nI k < 0 ∨ n' ≤ (nI k).toNatClampNeg then none else some (am_up (n, m, RO sh kd kz ko q1 q2 q3 cp so ki nu no sp hn sl ah he fr ou tol bx rws ma dpd isl inn atk g) q3 (.inl (.long, n', .inr (.inl (vp_updL f (nI k).toNatClampNeg x))))) | _ => none) = _
  rw [RO_q3 hq]
  show (if q3 = 0 ∨ nI k < 0 ∨ cp ≤ (nI k).toNatClampNeg then none else some _) = _
  rw [if_neg (fun z => z.elim h0 (k_in hk (by omega))), nI_clamp (by omega)]
  refine congrArg some (Prod.ext rfl (Prod.ext rfl ?_))
  exact ovl_u3 hq
