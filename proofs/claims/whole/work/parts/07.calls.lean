/-! Calls; a run; every method's contract out of the abstract machine. -/
def am_Pc (D : va_G) (dA : FieldType → ClassId) (b0 sz : Nat) (As : List Value) (h : am_H) : Array Value → State → Prop := va_Pc (As.map (am_rl b0 sz)) (fun U => am_P D dA b0 sz h U U.heap ∧ am_K D dA U)
def am_Qc (D : va_G) (dA : FieldType → ClassId) (b0 sz : Nat) (r : Option Value) (h : am_H) : Array Value → State → Outcome → State → Prop := fun _ st oc t => oc = .returned (r.map (am_rl b0 sz)) ∧ am_P D dA b0 sz h t t.heap ∧ va_F (fun q => sz ≤ q) st t
def am_rm (d k n : Nat) : Room := { frames := d, cells := k, slots := n, locals := 64 * d }
def am_gd (j : Nat) (q : am_Q) : Prop := match q with
  | (o, y, cc, n, rt, ini, cd) => am_my[j]? = some y ∧ am_cn o = y.cls ∧ n ≤ 40 ∧ Cond.code y cc n rt ∈ am_tb ∧ plainName y.cls = true ∧ (y.cls ≠ "java/lang/invoke/MethodHandle" ∧ y.cls ≠ "java/lang/invoke/VarHandle") ∧ (ini = true → y.name = "<init>") ∧ (y.name = "<init>" → rt = none) ∧ am_vl o ini rt cc cd = true ∧ am_pc cd = 0
def am_M (l : Launch) (D : va_G) (dA : FieldType → ClassId) (b0 sz : Nat) (ms : List am_Q) (d : Nat) (f : am_F) : Prop :=
  ∀ (j : Nat) (As : List Value) (h : am_H) (r : Option Value) (h' : am_H), f j As h = some (r, h') → h.1 ≤ h'.1 ∧ h.2.1 ≤ h'.2.1 ∧ ∃ q : am_Q, ms[j]? = some q ∧
    Met l q.2.1 (.code q.2.1 q.2.2.1 q.2.2.2.1 q.2.2.2.2.1 :: am_tb) (am_rm d (h'.1 - h.1) (h'.2.1 - h.2.1)) (am_Pc D dA b0 sz As h) (am_Qc D dA b0 sz r h') (h'.1 - h.1) (h'.2.1 - h.2.1) (fun q => sz ≤ q)
theorem am_blind {D : va_G} {dA : FieldType → ClassId} {b0 sz : Nat} {As : List Value} {h : am_H} : FrameBlind (am_Pc D dA b0 sz As h) := fun a U g mk q => ⟨q.1, q.2.1.moved (u := U) (U := U.calling g mk a) (Vm.Alike.refl U.vm), am_K.same (s := U) (U := U.calling g mk a) rfl q.2.2⟩
theorem am_good (y : MethodName) (cc : ByteArray) (n : Nat) (rt : Option FieldType) (hc : Cond.code y cc n rt ∈ am_tb) : GoodIn am_tb (.code y cc n rt :: am_tb) := by
  intro w hw
  have h1 : w ∈ am_tb := by
    rcases List.mem_cons.mp hw with rfl | h
    · exact hc
    · exact h
  exact ⟨h1, am_tb_good w h1⟩
section AMC
variable {p : Program} {l : Launch} {e : Env} {R : Room} {s : State} {m : MethodId} {args : Array Value} {below : List Frame} {meth : Method} {c : Code} {H : Heap} {locs : List Loc} {cells slots : Nat} {Q : State → Prop} {D : va_G} {dA : FieldType → ClassId} {b0 sz nL k0 n0 o d : Nat} {cc : ByteArray} {rt : Option FieldType} {ini : Bool} {ms : List am_Q} {f : am_F} {cd : List am_I} {pc a b : Nat} {ins : Instr} {v : Value} {sw : List (Int32 × Nat)} {is : List am_I} {lv : am_L} {st : List Value} {h h' : am_H} {σ : am_S} {ls : Array Slot} {rest st0 : List Value} {r : Option Value}
theorem am_cont {mc mS : Nat} {av : Array Value} (hr : va_Run p l e R s m args below meth c H locs cells slots mc mS (F0 m pc ls st0) rest (am_Qc D dA b0 sz r h' av) (fun q => sz ≤ q)) (hS : va_S (fun q => sz ≤ q) s.heap H locs)
    (kk : ∀ (H1 : Heap) (locs1 : List Loc), am_P D dA b0 sz h' s H1 → va_S (fun q => sz ≤ q) s.heap H1 locs1 → W p l e R s m args below meth c H1 locs1 (cells + mc) (slots + mS) Q (F0 m (pc + 3) ls ((r.map (am_rl b0 sz)).toList ++ rest))) : W p l e R s m args below meth c H locs cells slots Q (F0 m pc ls st0) := by
  intro T hT X
  obtain ⟨w, st₀, t, T', L, h0, X', hL, e1, e2, ⟨hv, hp, hz, hk⟩, stp⟩ := hr T hT X
  cases hv
  rw [h0] at hz hk
  have hal : t.vm.Alike s.vm := by rw [← e2]; exact X'.warmed.alike.symm
  obtain ⟨t2, a1, b1⟩ := kk T'.heap (locs ++ L) (by rw [e1]; exact hp.moved hal)
    ⟨Nat.le_trans hS.1 (by rw [e1]; exact hz), fun q h1 h2 => by rw [e1, hk q (Nat.lt_of_lt_of_le h1 hS.1) h2]; exact hS.2.1 q h1 h2, fun q hq => by
      rcases List.mem_append.mp hq with h | h
      · exact hS.2.2 q h
      · exact hL q h⟩ T' rfl X'
  exact ⟨t2, stp t2 a1, b1⟩
theorem am_k_spec {o' : Option am_R} (hst : am_k is lv st o' = some (.inl σ)) : ∃ r h', o' = some (r, h') ∧ am_cat st ≤ 8 ∧ σ = (is, lv, r.toList ++ st, h') := by
  unfold am_k at hst
  split at hst
  · split at hst
    · rename_i h8; cases hst; exact ⟨_, _, rfl, h8, rfl⟩
    · cases hst
  · split at hst
    · rename_i h8; cases hst; exact ⟨_, _, rfl, h8, rfl⟩
    · cases hst
  · cases hst
def am_pl5 : Instr → Bool
  | .invokevirtual _ | .invokespecial _ | .invokestatic _ => true
  | _ => false
theorem am_map_ref {b0 sz k : Nat} {bs st : List Value} : ((bs.reverse ++ Value.ref (k + 1) :: st).map (am_rl b0 sz)) = (bs.map (am_rl b0 sz)).reverse ++ .ref (sz + k) :: st.map (am_rl b0 sz) := by
  simp [am_rl_ref]
theorem am_map_app {b0 sz : Nat} {bs st : List Value} : ((bs.reverse ++ st).map (am_rl b0 sz)) = (bs.map (am_rl b0 sz)).reverse ++ st.map (am_rl b0 sz) := by
  simp
theorem am_toList {b0 sz : Nat} {r : Option Value} {st : List Value} : (r.map (am_rl b0 sz)).toList ++ st.map (am_rl b0 sz) = (r.toList ++ st).map (am_rl b0 sz) := by
  cases r <;> simp
/-- a reference to a place, or to the script -/
theorem am_rl_any (b0 sz r : Nat) : ∃ q : Nat, am_rl b0 sz (.ref r) = .ref q := by cases r <;> exact ⟨_, rfl⟩
set_option maxHeartbeats 8000000 in
theorem am_one5 (hms : ∀ (j : Nat) (q : am_Q), ms[j]? = some q → am_gd j q) (hM : am_M l D dA b0 sz ms d f) (hRf : d + 1 ≤ R.frames) (hRl : 64 * (d + 1) ≤ R.locals) (hbs : b0 < sz) (C : am_C D dA o cc nL rt ini p s m args meth c) (hq : am_pl5 ins = true) (hst : am_ex f cd ins a b v sw is lv st h = some (.inl σ)) (hv : am_vi o ini rt cc (pc, ins, a, b, v, sw) (am_pc is) = true) (hk0 : k0 ≤ h.1) (hn0 : n0 ≤ h.2.1) (hR : σ.2.2.2.1 - k0 ≤ R.cells ∧ σ.2.2.2.2.1 - n0 ≤ R.slots) (kk : am_G p l e R s m args below meth c Q D dA b0 sz nL k0 n0 σ) : am_G p l e R s m args below meth c Q D dA b0 sz nL k0 n0 ((pc, ins, a, b, v, sw) :: is, lv, st, h) := by
  intro pc' hpc H locs ls hP hS hl
  obtain rfl : pc = pc' := hpc
  obtain ⟨hx, hb, hml, hown, hts, hr, hlk, hini, hK⟩ := C
  dsimp only at hP hl
  have hmlL : c.maxLocals = ls.size := hml.trans hl.1.symm
  -- behind a call
  have fin : ∀ (r : Option Value) (h' : am_H) (st' : List Value), σ = (is, lv, r.toList ++ st', h') → am_pc is = pc + 3 → h.1 ≤ h'.1 → h.2.1 ≤ h'.2.1 → ∀ (H1 : Heap) (locs1 : List Loc), am_P D dA b0 sz h' s H1 → va_S (fun q => sz ≤ q) s.heap H1 locs1 → W p l e R s m args below meth c H1 locs1 (h.1 - k0 + (h'.1 - h.1)) (h.2.1 - n0 + (h'.2.1 - h.2.1)) Q (F0 m (pc + 3) ls ((r.map (am_rl b0 sz)).toList ++ st'.map (am_rl b0 sz))) := by
    intro r h' st' hσ hnx hh1 hh2 H1 locs1 g1 g2
    subst hσ
    have k2 := kk _ hnx H1 locs1 ls g1 g2 hl
    dsimp only at k2
    rw [am_toList, show h.1 - k0 + (h'.1 - h.1) = h'.1 - k0 by omega, show h.2.1 - n0 + (h'.2.1 - h.2.1) = h'.2.1 - n0 by omega]
    exact k2
  have room : ∀ (r : Option Value) (h' : am_H) (st' : List Value), σ = (is, lv, r.toList ++ st', h') → h.1 ≤ h'.1 → h.2.1 ≤ h'.2.1 → h.1 - k0 + (h'.1 - h.1) ≤ R.cells ∧ h.2.1 - n0 + (h'.2.1 - h.2.1) ≤ R.slots := by
    intro r h' st' hσ hh1 hh2
    subst hσ
    dsimp only at hR
    omega
  have preS : ∀ As : List Value, PreS s H (am_Pc D dA b0 sz As h) (As.map (am_rl b0 sz)) := fun As => ⟨am_blind, fun U hU hW => ⟨rfl, by rw [hU]; exact hP.moved hW.alike, hK.moved hW⟩⟩
  have hrm : ∀ (n k z : Nat), n ≤ 40 → (am_rm d k z).frames + 1 ≤ R.frames ∧ 8 + (n + 11) + (am_rm d k z).locals ≤ R.locals := fun n k z hn => ⟨hRf, by show 8 + (n + 11) + 64 * d ≤ R.locals; omega⟩
  cases ins <;> first
    | (exact absurd hq Bool.false_ne_true)
    | (simp only [am_vi, Bool.and_eq_true, decide_eq_true_eq] at hv)
  case invokevirtual i =>
    obtain ⟨⟨⟨⟨hd, hnx⟩, hml1⟩, hnp⟩, hcl⟩ := hv
    obtain ⟨p1, p2, p3, p4, hmk⟩ := am_ml_at hml1
    obtain ⟨y, hy⟩ := am_mk_y hmk
    obtain ⟨w1, w2, w3, w4⟩ := am_mk_0 hy hmk
    have hnp := am_np_ok hy hnp
    rw [hy] at hcl
    simp only [am_ex] at hst
    split at hst
    · rename_i cI
      simp only [Bool.and_eq_true, decide_eq_true_eq] at hcl
      split at hst
      · rename_i As r st' hpop
        split at hst
        · rename_i hcr
          obtain ⟨ra, h', hf, h8, hσ⟩ := am_k_spec hst
          obtain ⟨hh1, hh2, q, hq1, hMet⟩ := hM a _ h ra h' hf
          have hg := hms a q hq1
          obtain ⟨o', y', cc', n', rt', ini', cd'⟩ := q
          obtain ⟨g1, g2, g3, g4, g5, g6, g7, g8, g9, g10⟩ := hg
          obtain rfl : y = y' := Option.some.inj (hy.symm.trans g1)
          obtain ⟨bs, hb1, hb2, hb3⟩ := am_pop_spec _ _ _ _ _ hpop
          rw [List.append_nil] at hb2
          subst hb2
          unfold am_cl at hcr
          split at hcr
          · rename_i c' fs he
            cases hcr
            obtain ⟨k, rfl, hat⟩ := hP.obj he
            have hclk := am_cls cI hcl.1
            have hrec := va_recv hK.1 (am_one_P hat) hclk.1 (q0 := 0) rfl
            dsimp only at hrec
            rw [hcl.2] at hrec
            have cw := cwV (R := R) (s := s) (args := args) (Ts := am_tb) (own := am_cn o) (index := i) (C := y.cls) (y := y) (bytes := cc') (maxL := n') (ret := rt') (ws' := am_tb) (rm := am_rm d (h'.1 - h.1) (h'.2.1 - h.2.1)) b hts (by
              intro w hw
              have hin : w ∈ am_tb := by
                unfold wsV at hw
                simp only [List.mem_append, List.mem_cons, List.not_mem_nil, or_false] at hw
                rcases hw with (rfl | rfl | rfl | rfl) | (rfl | hw)
                · exact w1
                · exact w2
                · exact w3
                · exact w4
                · exact g4
                · exact hw
              exact ⟨hin, am_tb_good w hin⟩) rfl rfl rfl ⟨rfl, g6.1, g6.2, hnp⟩ (hrm n' _ _ g3)
            subst hb3
            rw [am_map_ref]
            exact am_cont (va_runV (As := As.map (am_rl b0 sz)) (rest := st'.map (am_rl b0 sz)) ⟨hx, hb, hml, hown, hts⟩ hMet cw ⟨am_blind, hrec, fun U hU hW => ⟨rfl, by rw [hU]; exact hP.moved hW.alike, hK.moved hW⟩⟩ rfl (by rw [List.length_map]; exact hb1) hl.1 rfl (lv_room (by rw [am_cat_sum]; exact h8)) (am_dc_ok hd) (room ra h' st' hσ hh1 hh2)) hS (fin ra h' st' hσ hnx hh1 hh2)
          · cases hcr
        · cases hst
      · cases hst
    · cases hst
  case invokespecial i =>
    obtain ⟨⟨hd, hnx⟩, hvv⟩ := hv
    simp only [am_ex] at hst
    split at hst
    · split at hst
      · rename_i r st'
        split at hst
        · rename_i h8
          cases hst
          obtain ⟨a', p1, p2, p3, p4, hmk⟩ := am_ml_at0 hvv
          obtain ⟨y, hy⟩ := am_mk_y hmk
          have w1 := am_mk_5 hy hmk
          obtain ⟨z, hz⟩ := am_rl_any b0 sz r
          have kx := kk _ hnx H locs ls hP hS hl
          refine W.objInit hx hb hown (hts _ w1) (hts _ am_w_obj.1) (hts _ am_w_obj.2) rfl (by rw [hml]; exact hl.1) (a := z) (rest := st'.map (am_rl b0 sz)) (by show List.map (am_rl b0 sz) (.ref r :: st') = _; rw [List.map_cons, hz]) (am_dc_ok hd) (by omega) (by show 2 * 0 + _ + 12 ≤ _; rw [am_cat_sum]; omega) kx
        · cases hst
      · cases hst
    · rename_i hnn
      split at hst
      · rename_i As r st' hpop
        obtain ⟨ra, h', hf, h8, hσ⟩ := am_k_spec hst
        obtain ⟨hh1, hh2, q, hq1, hMet⟩ := hM a _ h ra h' hf
        have hg := hms a q hq1
        obtain ⟨o', y', cc', n', rt', ini', cd'⟩ := q
        obtain ⟨g1, g2, g3, g4, g5, g6, g7, g8, g9, g10⟩ := hg
        obtain ⟨bs, hb1, hb2, hb3⟩ := am_pop_spec _ _ _ _ _ hpop
        rw [List.append_nil] at hb2
        subst hb2
        obtain ⟨z, hz⟩ := am_rl_any b0 sz r
        have hstk : st.map (am_rl b0 sz) = (As.map (am_rl b0 sz)).reverse ++ .ref z :: st'.map (am_rl b0 sz) := by rw [hb3]; simp [hz]
        have hpre := preS (.ref r :: As)
        rw [List.map_cons, hz] at hpre
        split at hvv
        · exact absurd rfl hnn
        · simp only [Bool.and_eq_true, decide_eq_true_eq] at hvv
          obtain ⟨p1, p2, p3, p4, hmk⟩ := am_ml_at hvv.1
          have hnp := am_np_ok g1 hvv.2
          obtain ⟨w1, w2, w3, w4⟩ := am_mk_1 g1 hmk
          obtain rfl := g8 w4
          have cw := cwI (R := R) (s := s) (args := args) (own := am_cn o) (index := i) (y := y') (bytes := cc') (maxL := n') (ws' := am_tb) (rm := am_rm d (h'.1 - h.1) (h'.2.1 - h.2.1)) b hts (am_good y' cc' n' none g4) rfl rfl rfl (hts _ w3) (hts _ w1) (hts _ w2) w4 ⟨g6.1, g6.2, hnp⟩ (hrm n' _ _ g3)
          show W p l e R s m args below meth c H locs (h.1 - k0) (h.2.1 - n0) Q (F0 m pc ls (st.map (am_rl b0 sz)))
          rw [hstk]
          exact am_cont (va_runI (As := As.map (am_rl b0 sz)) (rest := st'.map (am_rl b0 sz)) ⟨hx, hb, hml, hown, hts⟩ hMet cw hpre rfl (by rw [List.length_map]; exact hb1) hl.1 rfl (lv_room (by rw [am_cat_sum]; exact h8)) (am_dc_ok hd) (room ra h' st' hσ hh1 hh2)) hS (fin ra h' st' hσ hnx hh1 hh2)
        · rw [g1] at hvv
          simp only [Bool.and_eq_true, decide_eq_true_eq] at hvv
          obtain ⟨p1, p2, p3, p4, hmk⟩ := am_ml_at hvv.1.2
          have hnp := am_np_ok g1 hvv.2
          obtain ⟨w2, w3, w4⟩ := am_mk_3 g1 hmk
          obtain rfl := g8 w4
          have cw := va_cnB (R := R) (s := s) (args := args) (own := am_cn o) (index := i) (y := y') (host := RX4) (bytes := cc') (maxL := n') (ret := none) (ws' := am_tb) (rm := am_rm d (h'.1 - h.1) (h'.2.1 - h.2.1)) b hts (am_good y' cc' n' none g4) rfl rfl rfl (hK.2 _ hvv.1.1) (hts _ w3) ⟨g6.1, g6.2, hnp⟩ (hrm n' _ _ g3)
          show W p l e R s m args below meth c H locs (h.1 - k0) (h.2.1 - n0) Q (F0 m pc ls (st.map (am_rl b0 sz)))
          rw [hstk]
          exact am_cont (va_runIN (As := As.map (am_rl b0 sz)) (rest := st'.map (am_rl b0 sz)) ⟨hx, hb, hml, hown, hts⟩ hMet ⟨cw, w4, hts _ w2⟩ hpre rfl (by rw [List.length_map]; exact hb1) hl.1 rfl (lv_room (by rw [am_cat_sum]; exact h8)) (am_dc_ok hd) (room ra h' st' hσ hh1 hh2)) hS (fin ra h' st' hσ hnx hh1 hh2)
        · cases hvv
      · cases hst
  case invokestatic i =>
    obtain ⟨⟨hd, hnx⟩, hvv⟩ := hv
    simp only [am_ex] at hst
    split at hst
    · split at hst
      · rename_i y x st'
        split at hst
        · rename_i h8
          cases hst
          obtain ⟨a', p1, p2, p3, p4, hmk⟩ := am_ml_at0 hvv
          obtain ⟨y1, hy⟩ := am_mk_y hmk
          have w1 := am_mk_6 hy hmk
          dsimp only at hR
          exact va_mmax hx hb hmlL hown (hts _ w1) (hts _ am_w_max.1) (hts _ am_w_max.2.1) (hts _ am_w_max.2.2) (by omega) (by rw [am_cat_sum]; omega) hR.1 hR.2 (am_dc_ok hd) (kk _ hnx H locs ls hP hS hl)
        · cases hst
      · cases hst
    · split at hst
      · rename_i n dp r' sp r st'
        split at hst
        · rename_i hrr
          obtain ⟨rfl, h8⟩ := hrr
          split at hst
          · rename_i h' hcy
            cases hst
            obtain ⟨a', p1, p2, p3, p4, hmk⟩ := am_ml_at0 hvv
            obtain ⟨y1, hy⟩ := am_mk_y hmk
            have w1 := am_mk_7 hy hmk
            unfold am_cy at hcy
            split at hcy
            · rename_i kz g he
              split at hcy
              · cases hcy
              · rename_i hno
                cases hcy
                cases r with
                | zero => exact absurd (Or.inl rfl) hno
                | succ k =>
                  have hat : H[sz + k]? = some (vp_cell (dA .long) (kz, .inr (.inl g))) := hP.2.1 k _ he
                  have h1 : ¬ sp < 0 := fun z => hno (Or.inr (Or.inl z))
                  have h2 : ¬ dp < 0 := fun z => hno (Or.inr (Or.inr (Or.inl z)))
                  have h3 : ¬ n < 0 := fun z => hno (Or.inr (Or.inr (Or.inr (Or.inl z))))
                  have h4 : sp.toNatClampNeg + n.toNatClampNeg ≤ kz := Nat.not_lt.mp fun z => hno (Or.inr (Or.inr (Or.inr (Or.inr (Or.inl z)))))
                  have h5 : dp.toNatClampNeg + n.toNatClampNeg ≤ kz := Nat.not_lt.mp fun z => hno (Or.inr (Or.inr (Or.inr (Or.inr (Or.inr z)))))
                  have nn : ∀ z : Int32, ¬ z < 0 → z.toInt = (z.toNatClampNeg : Int) := by
                    intro z hz
                    have hz0 : (0 : Int) ≤ z.toInt := by
                      have := Int32.not_lt.mp hz
                      simpa using Int32.le_iff_toInt_le.mp this
                    show z.toInt = ((z.toInt.toNat : Nat) : Int)
                    omega
                  intro T hT X
                  obtain ⟨-, kc, hkc, cm, hkk⟩ := hK.long kz (fun j => .long (g j))
                  obtain ⟨vm', X', step⟩ := X.arraycopy hx hown (hts _ w1) (hts _ am_w_cpy.1) (hts _ am_w_cpy.2.1) (hts _ am_w_cpy.2.2) (src := sz + k) (dst := sz + k) (cs := vp_cell (dA .long) (kz, .inr (.inl g))) (cd := vp_cell (dA .long) (kz, .inr (.inl g))) (srcPos := sp) (destPos := dp) (n := n) (by rw [hT]; exact hat) (by rw [hT]; exact hat)
                    (fun _ h => by cases h) (fun _ h => by cases h) (fun h => by cases h) (fun h => by cases h) hkc hkc hkk hkk (by simp [refKind]) h1 h2 h3
                    (by rw [nn sp h1, nn n h3]; show ¬ _ > ((arrV (dA .long) kz (fun j => .long (g j))).slots.size : Int); rw [arrV_size]; omega)
                    (by rw [nn dp h2, nn n h3]; show ¬ _ > ((arrV (dA .long) kz (fun j => .long (g j))).slots.size : Int); rw [arrV_size]; omega)
                    (fun vm₁ _ i hi => by
                      have e : (vp_cell (dA .long) (kz, .inr (.inl g))).slots.getD (sp.toNatClampNeg + i) .null = .long (g (sp.toNatClampNeg + i)) := by
                        show (arrV (dA .long) kz (fun j => .long (g j))).slots.getD _ _ = _
                        rw [Array.getD_eq_getD_getElem?, arrV_read _ _ (by omega)]
                        rfl
                      refine ⟨?_, ?_⟩
                      · rw [e]; rfl
                      · rw [e]; exact trivial)
                    (g := F0 m pc ls (.int n :: .int dp :: .ref (sz + k) :: .int sp :: .ref (sz + k) :: st'.map (am_rl b0 sz))) rfl (by rw [hml]; exact hl.1) (rest := st'.map (am_rl b0 sz)) rfl (by rw [hb]; exact am_dc_ok hd) (by omega) (by
                      have hz : nativeFrameWords "java/lang/System" "arraycopy" 5 = 7 := by decide +kernel
                      show 2 * 0 + _ + (nativeFrameWords "java/lang/System" "arraycopy" 5 + 11) ≤ _
                      rw [hz, am_cat_sum]; omega)
                  have e1 : copied (vp_cell (dA .long) (kz, .inr (.inl g))) (vp_cell (dA .long) (kz, .inr (.inl g))) sp dp n = vp_cell (dA .long) (kz, .inr (.inl (va_cpy g g sp.toNatClampNeg dp.toNatClampNeg n.toNatClampNeg))) := va_copied (fun z => .long z) (dA .long) (dA .long) g g h4
                  rw [e1] at X' step
                  have hlt : sz + k < H.size := (Array.getElem?_eq_some_iff.mp hat).1
                  have hheap : ((T.setVm vm').setCell (sz + k) (vp_cell (dA .long) (kz, .inr (.inl (va_cpy g g sp.toNatClampNeg dp.toNatClampNeg n.toNatClampNeg))))).heap = H.setIfInBounds (sz + k) (vp_cell (dA .long) (kz, .inr (.inl (va_cpy g g sp.toNatClampNeg dp.toNatClampNeg n.toNatClampNeg)))) := by rw [← hT]; rfl
                  have oq : ∀ q : Nat, q ≠ sz + k → (H.setIfInBounds (sz + k) (vp_cell (dA .long) (kz, .inr (.inl (va_cpy g g sp.toNatClampNeg dp.toNatClampNeg n.toNatClampNeg)))))[q]? = H[q]? := fun q hq => by simp [Array.getElem?_setIfInBounds, Ne.symm hq]
                  obtain ⟨t, a1, b1⟩ := kk _ hnx _ _ ls (hP.up hbs he (by simp) oq (show (H.setIfInBounds (sz + k) _)[sz + k]? = some (vp_cell (dA .long) _) by simp [Array.getElem?_setIfInBounds, hlt])) ⟨by simp; exact hS.1, fun q g1 g2 => by
                      rw [oq q (fun e => g2 (by rw [e]; exact Nat.le_add_right _ _))]
                      exact hS.2.1 q g1 g2, fun q hq => by
                      rcases List.mem_append.mp hq with h | h
                      · exact hS.2.2 q h
                      · obtain ⟨z, -, hz⟩ := List.mem_map.mp h
                        rw [← hz]
                        exact Nat.le_add_right _ _⟩ hl _ hheap X'
                  exact ⟨t, step t a1, b1⟩
            · cases hcy
          · cases hst
        · cases hst
      · cases hst
    · rename_i hnn hnl
      split at hst
      · rename_i As st' hpop
        obtain ⟨ra, h', hf, h8, hσ⟩ := am_k_spec hst
        obtain ⟨hh1, hh2, q, hq1, hMet⟩ := hM a _ h ra h' hf
        have hg := hms a q hq1
        obtain ⟨o', y', cc', n', rt', ini', cd'⟩ := q
        obtain ⟨g1, g2, g3, g4, g5, g6, g7, g8, g9, g10⟩ := hg
        obtain ⟨bs, hb1, hb2, hb3⟩ := am_pop_spec _ _ _ _ _ hpop
        rw [List.append_nil] at hb2
        subst hb2
        have hstk : st.map (am_rl b0 sz) = (As.map (am_rl b0 sz)).reverse ++ st'.map (am_rl b0 sz) := by rw [hb3]; simp
        split at hvv
        · exact absurd rfl hnn
        · exact absurd rfl (hnl _)
        · simp only [Bool.and_eq_true, decide_eq_true_eq] at hvv
          obtain ⟨p1, p2, p3, p4, hmk⟩ := am_ml_at hvv.1
          have hnp := am_np_ok g1 hvv.2
          obtain ⟨w1, w2, w3⟩ := am_mk_2 g1 hmk
          have cw := va_cwS (R := R) (s := s) (args := args) (Ts := am_tb) (own := am_cn o) (index := i) (y := y') (bytes := cc') (maxL := n') (ret := rt') (ws' := am_tb) (rm := am_rm d (h'.1 - h.1) (h'.2.1 - h.2.1)) b hts (by
            intro w hw
            have hin : w ∈ am_tb := by
              unfold va_wsS at hw
              simp only [List.mem_append, List.mem_cons, List.not_mem_nil, or_false] at hw
              rcases hw with (rfl | rfl | rfl) | (rfl | hw)
              · exact w1
              · exact w2
              · exact w3
              · exact g4
              · exact hw
            exact ⟨hin, am_tb_good w hin⟩) rfl rfl rfl ⟨g6.1, g6.2, hnp⟩ (hrm n' _ _ g3)
          show W p l e R s m args below meth c H locs (h.1 - k0) (h.2.1 - n0) Q (F0 m pc ls (st.map (am_rl b0 sz)))
          rw [hstk]
          exact am_cont (va_runS (As := As.map (am_rl b0 sz)) (rest := st'.map (am_rl b0 sz)) ⟨hx, hb, hml, hown, hts⟩ hMet cw (preS As) rfl (by rw [List.length_map]; exact hb1) hl.1 rfl (lv_room (by rw [am_cat_sum]; exact h8)) (am_dc_ok hd) (room ra h' st' hσ hh1 hh2)) hS (fin ra h' st' hσ hnx hh1 hh2)
        · rw [g1] at hvv
          simp only [Bool.and_eq_true, decide_eq_true_eq] at hvv
          obtain ⟨p1, p2, p3, p4, hmk⟩ := am_ml_at hvv.1.2
          have hnp := am_np_ok g1 hvv.2
          obtain ⟨w2, w3⟩ := am_mk_4 g1 hmk
          have cw := va_cnB (R := R) (s := s) (args := args) (own := am_cn o) (index := i) (y := y') (host := RX4) (bytes := cc') (maxL := n') (ret := rt') (ws' := am_tb) (rm := am_rm d (h'.1 - h.1) (h'.2.1 - h.2.1)) b hts (am_good y' cc' n' rt' g4) rfl rfl rfl (hK.2 _ hvv.1.1) (hts _ w3) ⟨g6.1, g6.2, hnp⟩ (hrm n' _ _ g3)
          show W p l e R s m args below meth c H locs (h.1 - k0) (h.2.1 - n0) Q (F0 m pc ls (st.map (am_rl b0 sz)))
          rw [hstk]
          exact am_cont (va_runSN (As := As.map (am_rl b0 sz)) (rest := st'.map (am_rl b0 sz)) ⟨hx, hb, hml, hown, hts⟩ hMet ⟨cw, hts _ w2, trivial⟩ (preS As) rfl (by rw [List.length_map]; exact hb1) hl.1 rfl (lv_room (by rw [am_cat_sum]; exact h8)) (am_dc_ok hd) (room ra h' st' hσ hh1 hh2)) hS (fin ra h' st' hσ hnx hh1 hh2)
        · cases hvv
      · cases hst
end AMC
