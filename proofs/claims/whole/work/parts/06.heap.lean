/-! The steps that read and write places, and that make them. -/
section AMH
variable {p : Program} {l : Launch} {e : Env} {R : Room} {s : State} {m : MethodId} {args : Array Value} {below : List Frame} {meth : Method} {c : Code} {H : Heap} {locs : List Loc} {cells slots : Nat} {Q : State → Prop} {D : va_G} {dA : FieldType → ClassId} {b0 sz nL k0 n0 o : Nat} {cc : ByteArray} {rt : Option FieldType} {ini : Bool} {f : am_F} {cd : List am_I} {pc a b : Nat} {ins : Instr} {v : Value} {sw : List (Int32 × Nat)} {is : List am_I} {lv : am_L} {st : List Value} {h : am_H} {σ : am_S} {ls : Array Slot} {rest : List Value}
theorem am_one_P {q : Nat × va_E} (h : va_at D vwCl q H) : va_P D vwCl [q] H := fun k x hx => by
  have hz : k < 1 := (List.getElem?_eq_some_iff.mp hx).1
  rw [show k = 0 by omega] at hx
  cases hx
  exact h
theorem am_P.obj {U : State} {r cI : Nat} {fs : List Value} (hP : am_P D dA b0 sz h U H) (hr : h.2.2 r = some (.inr (cI, fs))) : ∃ k, r = k + 1 ∧ va_at D vwCl (sz + k, .inr (cI, fs.map (am_rl b0 sz))) H := by
  cases r with
  | zero => obtain ⟨L, xs, e, -⟩ := hP.2.2 _ hr; cases e
  | succ k => exact ⟨k, rfl, hP.2.1 k _ hr⟩
theorem am_K.int (hK : am_K D dA s) : ArrOfT s (dA .int) .int := (hK.1.2 0 _ rfl).1
theorem am_K.long (hK : am_K D dA s) : ArrOfT s (dA .long) .long := (hK.1.2 1 _ rfl).1
theorem am_K.bool (hK : am_K D dA s) : ArrOfT s (dA .boolean) .boolean := (hK.1.2 2 _ rfl).1
theorem am_putW (hx : p.tables.exec = Jvm.exec) (hb : c.code = cc) (hts : ∀ w ∈ am_tb, w.before args s = true) (hown : s.vm.findClass (am_cn o) = some m.cls) (hK : am_K D dA s) {j i q : Nat} (ha : a < 6) (hj : j < am_N a) (hlink : Cond.fieldLink (am_cn o) i (am_T a j).1 (am_T a j).2.1 (am_T a j).2.2.1 ∈ am_tb) (hfin : (am_T a j).2.2.2 = false ∨ (meth.name = "<init>" ∧ (am_T a j).1 = am_cn o)) {fs : List Value} (he : va_at D vwCl (q, .inr (a, fs)) H) (hn : narrow (am_ty a j) v = v) (hfit : fits (am_ty a j) v = true) (hl : j < fs.length) (hdg : decode cc pc = .ok (.putfield i, 3))
    (kk : ∀ (H1 : Heap) (z : Nat), va_at D vwCl (q, .inr (a, fs.set j v)) H1 → H1.size = H.size → (∀ x : Nat, x ≠ q → H1[x]? = H[x]?) → W p l e R s m args below meth c H1 (locs ++ [⟨q, z⟩]) cells slots Q (F0 m (pc + 3) ls rest)) : W p l e R s m args below meth c H locs cells slots Q (F0 m pc ls (v :: .ref q :: rest)) := by
  obtain ⟨hc, hin, hty, hnm⟩ := am_cls a ha
  have hap := va_apart (own := am_cn o) hts hin (am_ty a) hty hnm hK.1 hc
  obtain ⟨r, h1, cell, q1, q2, q3, q4⟩ := he
  have hr : r = (am_cn a, am_T a, am_N a) := Option.some.inj (h1.symm.trans hc)
  subst hr
  obtain ⟨hS, hfc, kC, hkC, hkind⟩ := hK.1.1 a _ hc
  obtain ⟨cf, kf, fi, f, hi, hsl⟩ := hS j hj
  have hlay := hts _ (hin _ (u_in_lay hj))
  have hst := (u_facts hfc hkC (u_lays hts hin hj) hi).1
  unfold u_lay at hlay
  rcases hfin with hfin | ⟨hin2, hdecl⟩
  · rw [if_neg (by rw [hfin]; decide)] at hlay
    have h6 := u_store hfc hkC hkind hlay hi (hty j hj) hn hfit
    refine W.putK hx hb (f := f) ⟨hown, hts _ hlink, ⟨_, _, _, hi⟩, hst⟩ (by rw [q2]; exact h6) q1 q3 (by rw [hsl]; exact k2_hasslot (q4 j hj)) rfl rfl hdg fun H' e1 e2 e3 => ?_
    rw [hsl] at e1 ⊢
    exact kk H' _ ⟨_, hc, t_OB.to (V := updV (vp_V fs) j v) ⟨_, e1, q2, q3, t_set q4 hap hj v⟩ (fun j _ => vp_updV_set hl v j)⟩ e2 e3
  · by_cases hff : (am_T a j).2.2.2 = true
    · rw [if_pos hff] at hlay
      have hcf : m.cls = cf := by
        obtain ⟨_, _, c', _, _, _, -, -, hf', -, -, -, hown2, -⟩ := Cond.laysFinal_spec hlay
        have e1 : c' = cf := by have := hi.symm.trans hf'; simp at this; exact this.1.symm
        rw [hdecl] at hown2
        rw [← e1]; exact Option.some.inj (hown.symm.trans hown2)
      have h6 := u_fits hfc hkC hkind (Or.inr hlay) hi (hty j hj) hn hfit
      refine W.putFinK hx hb hown (hts _ hlink) hi hst hcf hin2 (by rw [q2]; exact h6) q1 q3 (by rw [hsl]; exact k2_hasslot (q4 j hj)) rfl rfl hdg fun H' e1 e2 e3 => ?_
      rw [hsl] at e1 ⊢
      exact kk H' _ ⟨_, hc, t_OB.to (V := updV (vp_V fs) j v) ⟨_, e1, q2, q3, t_set q4 hap hj v⟩ (fun j _ => vp_updV_set hl v j)⟩ e2 e3
    · rw [if_neg hff] at hlay
      have h6 := u_store hfc hkC hkind hlay hi (hty j hj) hn hfit
      refine W.putK hx hb (f := f) ⟨hown, hts _ hlink, ⟨_, _, _, hi⟩, hst⟩ (by rw [q2]; exact h6) q1 q3 (by rw [hsl]; exact k2_hasslot (q4 j hj)) rfl rfl hdg fun H' e1 e2 e3 => ?_
      rw [hsl] at e1 ⊢
      exact kk H' _ ⟨_, hc, t_OB.to (V := updV (vp_V fs) j v) ⟨_, e1, q2, q3, t_set q4 hap hj v⟩ (fun j _ => vp_updV_set hl v j)⟩ e2 e3
def am_nr : Value → Bool
  | .ref _ => false
  | _ => true
theorem am_rl_nr {v : Value} (h : am_nr v = true) : am_rl b0 sz v = v := by
  cases v <;> first | rfl | (cases h; done)
theorem am_df_nr (a : Nat) : ∀ v ∈ am_df a, am_nr v = true := by
  unfold am_df
  split <;> decide
def am_pl4 : Instr → Bool
  | .getfield _ | .putfield _ | .iaload | .baload | .laload | .iastore | .bastore | .lastore | .arraylength | .newarray _ | .new _ => true
  | _ => false
theorem am_nar_bool {x : Int32} (h : x = 0 ∨ x = 1) : narrow .boolean (.int x) = .int x := by
  rcases h with rfl | rfl <;> decide +kernel
set_option maxHeartbeats 8000000 in
theorem am_one4 (hbs : b0 < sz) (C : am_C D dA o cc nL rt ini p s m args meth c) (hq : am_pl4 ins = true) (hst : am_ex f cd ins a b v sw is lv st h = some (.inl σ)) (hv : am_vi o ini rt cc (pc, ins, a, b, v, sw) (am_pc is) = true) (hk0 : k0 ≤ h.1) (hn0 : n0 ≤ h.2.1) (hR : σ.2.2.2.1 - k0 ≤ R.cells ∧ σ.2.2.2.2.1 - n0 ≤ R.slots) (kk : am_G p l e R s m args below meth c Q D dA b0 sz nL k0 n0 σ) : am_G p l e R s m args below meth c Q D dA b0 sz nL k0 n0 ((pc, ins, a, b, v, sw) :: is, lv, st, h) := by
  intro pc' hpc H locs ls hP hS hl
  obtain rfl : pc = pc' := hpc
  obtain ⟨hx, hb, hml, hown, hts, hr, hlk, hini, hK⟩ := C
  dsimp only at hP hl
  cases ins <;> first
    | (exact absurd hq Bool.false_ne_true)
    | (simp only [am_vi, Bool.and_eq_true, decide_eq_true_eq] at hv)
  case getfield i =>
    obtain ⟨⟨hd, hnx⟩, hfl⟩ := hv
    obtain ⟨ha, hj, hw⟩ := am_fl_at hfl
    obtain ⟨hc, hin, -, -⟩ := am_cls a ha
    simp only [am_ex] at hst
    split at hst
    · rename_i r st'
      split at hst
      · rename_i w hw2
        cases hst
        unfold am_gf at hw2
        split at hw2
        · rename_i c' fs he
          split at hw2
          · rename_i hcc
            subst hcc
            obtain ⟨k, rfl, hat⟩ := hP.obj he
            exact va_get hx hb hts hin hown hK.1 (am_one_P hat) 0 rfl hc b hj (hts _ hw) (fun _ h9 => h9) (v := am_rl b0 sz w) (by rw [List.getElem?_map, hw2]; rfl) (am_dc_ok hd) (kk _ hnx H locs ls hP hS hl)
          · cases hw2
        · cases hw2
      · cases hst
    · cases hst
  case putfield i =>
    obtain ⟨⟨⟨hd, hnx⟩, hfl⟩, hfi⟩ := hv
    obtain ⟨ha, hj, hw⟩ := am_fl_at hfl
    simp only [am_ex] at hst
    split at hst
    · rename_i w r st'
      split at hst
      · rename_i hnf
        split at hst
        · rename_i h' hw2
          cases hst
          unfold am_pf at hw2
          split at hw2
          · rename_i c' fs he
            split at hw2
            · rename_i hcc
              obtain ⟨rfl, hlen⟩ := hcc
              cases hw2
              obtain ⟨k, rfl, hat⟩ := hP.obj he
              have hnf' : narrow (am_ty c' b) (am_rl b0 sz w) = am_rl b0 sz w ∧ fits (am_ty c' b) (am_rl b0 sz w) = true := by
                cases w with
                | ref z =>
                  have h2 : ∀ y : Nat, narrow (am_ty c' b) (.ref y) = .ref y ∧ fits (am_ty c' b) (.ref y) = true := by
                    intro y
                    have h1 := hnf.2
                    cases ht : am_ty c' b <;> rw [ht] at h1 <;> first | (cases h1; done) | exact ⟨rfl, rfl⟩
                  cases z <;> exact h2 _
                | _ => exact hnf
              have hfin : (am_T c' b).2.2.2 = false ∨ (meth.name = "<init>" ∧ (am_T c' b).1 = am_cn o) := by
                simp only [Bool.or_eq_true, Bool.not_eq_true', Bool.and_eq_true, decide_eq_true_eq] at hfi
                rcases hfi with h1 | h1
                · exact Or.inl h1
                · exact Or.inr ⟨hini h1.1, h1.2⟩
              exact am_putW hx hb hts hown hK ha hj hw hfin hat hnf'.1 hnf'.2 (by rw [List.length_map]; exact hlen) (am_dc_ok hd) (fun H1 z g1 g2 g3 => kk _ hnx H1 _ ls (hP.up hbs he g2 g3 (by rw [← List.map_set] at g1; exact g1)) (hS.put g2 g3 (Nat.le_add_right _ _)) hl)
            · cases hw2
          · cases hw2
        · cases hst
      · cases hst
    · cases hst
  case iaload =>
    simp only [am_ex] at hst
    split at hst
    · rename_i i r st'
      split at hst
      · rename_i w hw2
        cases hst
        unfold am_gi at hw2
        split at hw2
        · rename_i n g he
          split at hw2
          · cases hw2
          · rename_i hir
            cases hw2
            cases r with
            | zero =>
              obtain ⟨L, xs, e1, hX⟩ := hP.2.2 _ he
              cases e1
              obtain ⟨scr, h1, h2, h3, h4, h5⟩ := hX
              have hlt : i.toNatClampNeg < n := Nat.not_le.mp fun q => hir (Or.inr q)
              exact W.iald (v := .int (g i.toNatClampNeg)) hx hb h1 h2 h3 (by rw [h4]; exact hir) (h5 _ hlt) rfl rfl (am_dc_ok hv.1) (kk _ hv.2 H locs ls hP hS hl)
            | succ k => exact va_iald hx hb hK.1 (am_one_P (hP.2.1 k _ he)) 0 0 rfl rfl hir (am_dc_ok hv.1) (kk _ hv.2 H locs ls hP hS hl)
        · cases hw2
      · cases hst
    · cases hst
  case baload =>
    simp only [am_ex] at hst
    split at hst
    · rename_i i r st'
      split at hst
      · rename_i w hw2
        cases hst
        unfold am_gz at hw2
        split at hw2
        · rename_i n g he
          split at hw2
          · cases hw2
          · rename_i hir
            cases hw2
            cases r with
            | zero => obtain ⟨L, xs, e1, hX⟩ := hP.2.2 _ he; cases e1
            | succ k => exact va_zald hx hb hK.1 (am_one_P (hP.2.1 k _ he)) 0 2 rfl rfl hir (am_dc_ok hv.1) (kk _ hv.2 H locs ls hP hS hl)
        · cases hw2
      · cases hst
    · cases hst
  case laload =>
    simp only [am_ex] at hst
    split at hst
    · rename_i i r st'
      split at hst
      · rename_i w hw2
        cases hst
        unfold am_gl at hw2
        split at hw2
        · rename_i n g he
          split at hw2
          · cases hw2
          · rename_i hir
            cases hw2
            cases r with
            | zero => obtain ⟨L, xs, e1, hX⟩ := hP.2.2 _ he; cases e1
            | succ k => exact va_lald hx hb hK.1 (am_one_P (hP.2.1 k _ he)) 0 1 rfl rfl hir (am_dc_ok hv.1) (kk _ hv.2 H locs ls hP hS hl)
        · cases hw2
      · cases hst
    · cases hst
  case iastore =>
    simp only [am_ex] at hst
    split at hst
    · rename_i x i r st'
      split at hst
      · rename_i h' hw2
        cases hst
        unfold am_pi at hw2
        split at hw2
        · rename_i n g he
          split at hw2
          · cases hw2
          · rename_i hir
            cases hw2
            cases r with
            | zero => exact absurd (Or.inl rfl) hir
            | succ k =>
              have hat := hP.2.1 k _ he
              have hir2 : ¬ (i < 0 ∨ n ≤ i.toNatClampNeg) := fun z => hir (Or.inr z)
              refine W.iast hx hb hat (hK.int n (fun j => .int (g j))) (fun q => by cases q) (by show ¬ (i < 0 ∨ (arrV _ _ _).slots.size ≤ _); rw [arrV_size]; exact hir2) rfl rfl (am_dc_ok hv.1) fun H1 e1 z oq => ?_
              refine kk _ hv.2 H1 _ ls (hP.up hbs he z oq ?_) (hS.put z oq (Nat.le_add_right _ _)) hl
              show H1[sz + k]? = some (vp_cell _ _)
              rw [e1]
              show some ((vp_cell (dA .int) (n, .inl g)).setSlot _ _) = _
              rw [vp_cell_i, vp_cell_i, arrV_store]
              congr 2
              funext q
              by_cases hq : q = i.toNatClampNeg
              · subst hq; simp [updV, upd]
              · simp [updV, upd, hq]
        · cases hw2
      · cases hst
    · cases hst
  case bastore =>
    simp only [am_ex] at hst
    split at hst
    · rename_i x i r st'
      split at hst
      · rename_i h' hw2
        cases hst
        unfold am_pz at hw2
        split at hw2
        · rename_i n g he
          split at hw2
          · cases hw2
          · rename_i hir
            cases hw2
            cases r with
            | zero => exact absurd (Or.inl (Or.inl rfl)) hir
            | succ k =>
              have hat := hP.2.1 k _ he
              have hir2 : ¬ (i < 0 ∨ n ≤ i.toNatClampNeg) := fun z => hir (Or.inl (Or.inr z))
              have hx01 : x = 0 ∨ x = 1 := Classical.not_not.mp fun z => hir (Or.inr z)
              refine W.zast hx hb hat (hK.bool n (fun j => .int (g j))) (fun q => by cases q) (by show ¬ (i < 0 ∨ (arrV _ _ _).slots.size ≤ _); rw [arrV_size]; exact hir2) rfl rfl (am_dc_ok hv.1) fun H1 e1 z oq => ?_
              refine kk _ hv.2 H1 _ ls (hP.up hbs he z oq ?_) (hS.put z oq (Nat.le_add_right _ _)) hl
              show H1[sz + k]? = some (vp_cell _ _)
              rw [e1, am_nar_bool hx01]
              show some ((vp_cell (dA .boolean) (n, .inl g)).setSlot _ _) = _
              rw [vp_cell_i, vp_cell_i, arrV_store]
              congr 2
              funext q
              by_cases hq : q = i.toNatClampNeg
              · subst hq; simp [updV, upd]
              · simp [updV, upd, hq]
        · cases hw2
      · cases hst
    · cases hst
  case lastore =>
    simp only [am_ex] at hst
    split at hst
    · rename_i x i r st'
      split at hst
      · rename_i h' hw2
        cases hst
        unfold am_pl at hw2
        split at hw2
        · rename_i n g he
          split at hw2
          · cases hw2
          · rename_i hir
            cases hw2
            cases r with
            | zero => exact absurd (Or.inl rfl) hir
            | succ k =>
              have hat := hP.2.1 k _ he
              have hir2 : ¬ (i < 0 ∨ n ≤ i.toNatClampNeg) := fun z => hir (Or.inr z)
              refine W.last hx hb hat (hK.long n (fun j => .long (g j))) (fun q => by cases q) (by show ¬ (i < 0 ∨ (arrV _ _ _).slots.size ≤ _); rw [arrV_size]; exact hir2) rfl rfl (am_dc_ok hv.1) fun H1 e1 z oq => ?_
              refine kk _ hv.2 H1 _ ls (hP.up hbs he z oq ?_) (hS.put z oq (Nat.le_add_right _ _)) hl
              show H1[sz + k]? = some (vp_cell _ _)
              rw [e1]
              show some ((vp_cell (dA .long) (n, .inr (.inl g))).setSlot _ _) = _
              rw [vp_cell_l, vp_cell_l, arrV_store]
              congr 2
              funext q
              by_cases hq : q = i.toNatClampNeg
              · subst hq; simp [updV, vp_updL]
              · simp [updV, vp_updL, hq]
        · cases hw2
      · cases hst
    · cases hst
  case arraylength =>
    simp only [am_ex] at hst
    split at hst
    · rename_i r st'
      split at hst
      · rename_i n hw2
        cases hst
        unfold am_ln at hw2
        split at hw2
        · rename_i n' g he
          cases hw2
          cases r with
          | zero =>
            obtain ⟨L, xs, e1, hX⟩ := hP.2.2 _ he
            cases e1
            obtain ⟨scr, h1, h2, h3, h4, h5⟩ := hX
            exact W.alen (n := Int32.ofNat _) hx hb h1 h2 (by rw [h4] <;> rfl) rfl rfl (am_dc_ok hv.1) (kk _ hv.2 H locs ls hP hS hl)
          | succ k => exact va_alen hx hb hK.1 (am_one_P (hP.2.1 k _ he)) 0 0 rfl rfl rfl (am_dc_ok hv.1) (kk _ hv.2 H locs ls hP hS hl)
        · rename_i n' g he
          cases hw2
          cases r with
          | zero => obtain ⟨L, xs, e1, hX⟩ := hP.2.2 _ he; cases e1
          | succ k => exact va_alen hx hb hK.1 (am_one_P (hP.2.1 k _ he)) 0 2 rfl rfl rfl (am_dc_ok hv.1) (kk _ hv.2 H locs ls hP hS hl)
        · rename_i n' g he
          cases hw2
          cases r with
          | zero => obtain ⟨L, xs, e1, hX⟩ := hP.2.2 _ he; cases e1
          | succ k => exact va_alen hx hb hK.1 (am_one_P (hP.2.1 k _ he)) 0 1 rfl rfl rfl (am_dc_ok hv.1) (kk _ hv.2 H locs ls hP hS hl)
        · cases hw2
      · cases hst
    · cases hst
  case newarray t =>
    simp only [am_ex] at hst
    split at hst
    · rename_i n st'
      split at hst
      · cases hst
      · rename_i hn
        have hn1 : ¬ n < 0 := fun z => hn (Or.inl z)
        have hn2 : n.toNatClampNeg ≤ 1000000 := Nat.not_lt.mp fun z => hn (Or.inr z)
        split at hst
        · cases hst
          simp only [am_nw] at hR
          show W p l e R s m args below meth c H locs (h.1 - k0) (h.2.1 - n0) Q (F0 m pc ls _)
          refine va_newaK (atype := .int) hx hb (hts _ am_w_int) rfl (am_dc_ok hv.1) rfl hn1 rfl (Nat.le_trans (Nat.mul_le_mul_right _ hn2) (by decide)) (by omega) (by omega) hP.1 fun H1 cA e1 z1 o1 hAr hNm => ?_
          have hcA : cA = dA .int := Option.some.inj (hNm.symm.trans (hK.1.2 0 _ rfl).2)
          have k2 := kk _ hv.2 H1 locs ls (hP.nw (n := n.toNatClampNeg) hbs (by rw [z1, hP.1]) (fun q hq => o1 q (by rw [← hP.1]; exact hq)) (by show H1[sz + h.1]? = some (vp_cell (dA .int) _); rw [e1, hcA]; rfl)) (am_S.nw hS (by rw [z1, hP.1]) (fun q hq => o1 q (by rw [← hP.1]; exact hq))) hl
          simp only [am_nw] at k2
          rw [show h.1 + 1 - k0 = h.1 - k0 + 1 by omega, show h.2.1 + n.toNatClampNeg - n0 = h.2.1 - n0 + n.toNatClampNeg by omega] at k2
          exact k2
        · cases hst
          simp only [am_nw] at hR
          show W p l e R s m args below meth c H locs (h.1 - k0) (h.2.1 - n0) Q (F0 m pc ls _)
          refine va_newaK (atype := .boolean) hx hb (hts _ am_w_boolean) rfl (am_dc_ok hv.1) rfl hn1 rfl (Nat.le_trans (Nat.mul_le_mul_right _ hn2) (by decide)) (by omega) (by omega) hP.1 fun H1 cA e1 z1 o1 hAr hNm => ?_
          have hcA : cA = dA .boolean := Option.some.inj (hNm.symm.trans (hK.1.2 2 _ rfl).2)
          have k2 := kk _ hv.2 H1 locs ls (hP.nw (n := n.toNatClampNeg) hbs (by rw [z1, hP.1]) (fun q hq => o1 q (by rw [← hP.1]; exact hq)) (by show H1[sz + h.1]? = some (vp_cell (dA .boolean) _); rw [e1, hcA]; rfl)) (am_S.nw hS (by rw [z1, hP.1]) (fun q hq => o1 q (by rw [← hP.1]; exact hq))) hl
          simp only [am_nw] at k2
          rw [show h.1 + 1 - k0 = h.1 - k0 + 1 by omega, show h.2.1 + n.toNatClampNeg - n0 = h.2.1 - n0 + n.toNatClampNeg by omega] at k2
          exact k2
        · cases hst
          simp only [am_nw] at hR
          show W p l e R s m args below meth c H locs (h.1 - k0) (h.2.1 - n0) Q (F0 m pc ls _)
          refine va_newaK (atype := .long) hx hb (hts _ am_w_long) rfl (am_dc_ok hv.1) rfl hn1 rfl (Nat.le_trans (Nat.mul_le_mul_right _ hn2) (by decide)) (by omega) (by omega) hP.1 fun H1 cA e1 z1 o1 hAr hNm => ?_
          have hcA : cA = dA .long := Option.some.inj (hNm.symm.trans (hK.1.2 1 _ rfl).2)
          have k2 := kk _ hv.2 H1 locs ls (hP.nw (n := n.toNatClampNeg) hbs (by rw [z1, hP.1]) (fun q hq => o1 q (by rw [← hP.1]; exact hq)) (by show H1[sz + h.1]? = some (vp_cell (dA .long) _); rw [e1, hcA]; rfl)) (am_S.nw hS (by rw [z1, hP.1]) (fun q hq => o1 q (by rw [← hP.1]; exact hq))) hl
          simp only [am_nw] at k2
          rw [show h.1 + 1 - k0 = h.1 - k0 + 1 by omega, show h.2.1 + n.toNatClampNeg - n0 = h.2.1 - n0 + n.toNatClampNeg by omega] at k2
          exact k2
        · cases hst
    · cases hst
  case new i =>
    cases hst
    obtain ⟨⟨hd, hnx⟩, hnl⟩ := hv
    obtain ⟨ha, hw1, hw2, hw3⟩ := am_nl_at hnl
    obtain ⟨hc, hin, hty, hnm⟩ := am_cls a ha
    simp only [am_nw] at hR
    have hKn := hK.1.1 a _ hc
    show W p l e R s m args below meth c H locs (h.1 - k0) (h.2.1 - n0) Q (F0 m pc ls _)
    refine W.newcK hx hb hown (hts _ hw1) (hts _ hw2) (hts _ hw3) rfl (am_dc_ok hd) (by omega) (by omega) hKn.2.1 hP.1 fun H1 kC hkC e1 z1 o1 => ?_
    have k2 := kk _ hnx H1 locs ls (hP.nw (n := am_N a) (e := .inr (a, am_df a)) hbs (by rw [z1, hP.1]) (fun q hq => o1 q (by rw [← hP.1]; exact hq)) (by
      refine ⟨_, hc, (u_born (am_ty a) hts hin hKn hkC e1 hty).to (fun j hj => ?_)⟩
      rw [am_df_ok a ha j hj]
      simp only [vp_V, List.getD_eq_getElem?_getD, List.getElem?_map]
      have h0 : ∀ v ∈ am_df a, am_rl b0 sz v = v := fun v hv => am_rl_nr (am_df_nr a v hv)
      cases hg : (am_df a)[j]? with
      | none => rfl
      | some v => exact (h0 v (List.mem_of_getElem? hg)).symm)) (am_S.nw hS (by rw [z1, hP.1]) (fun q hq => o1 q (by rw [← hP.1]; exact hq))) hl
    simp only [am_nw] at k2
    rw [show h.1 + 1 - k0 = h.1 - k0 + 1 by omega, show h.2.1 + am_N a - n0 = h.2.1 - n0 + am_N a by omega] at k2
    exact k2
end AMH
