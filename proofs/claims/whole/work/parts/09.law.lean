/-! THE CLAIM OUT OF ONE WALK OF THE LAW'S BODY. Your part is whole_start (and what it stands on); all else here is the same for every law, but numbers. -/
def R_law : String := "CellYardLaw"
def lw_P (b : Addr) (xs : List Int32) (args : Array Value) (s : State) : Prop := args = #[.ref b] ∧ s.IntsAt b xs ∧ xs.length ≤ 2560 ∧ (Jvm.Cond.and given_1 narrow_1).before args s = true
def lw_Q (_ : Array Value) (s : State) (o : Outcome) (t : State) : Prop := o = .returned (some (.int 1)) ∧ Framed s o t [] 600000 7302250
def lw_Z (below : List Frame) (a : Array Value) (s : State) : State → Prop := fun t => ∃ o, t.status = .running ∧ Ended t below o ∧ lw_Q a s o t
/-- the law's own end, with 1 on the stack, nothing written that was there before, its room as the claim has it -/
theorem lw_ret {p : Program} {l : Launch} {e : Env} {s : State} {m : MethodId} {below : List Frame} {meth : Method} {c : Code} {b : Nat} (hx : p.tables.exec = Jvm.exec) (hb : c.code = code) (hr : meth.sig.returnType = ret) (hlocks : meth.locks = false) {pc : Nat} {H : Heap} {ls : Array Slot} (hdg : decode code pc = .ok (.ireturn, 1)) : W p l e room_1 s m #[Value.ref b] below meth c H [] 600000 7302250 (lw_Z below #[Value.ref b] s) (F0 m pc ls [.int 1]) := by
  intro T hT X
  obtain ⟨fs, hret, hrun, hended, hW, hframe⟩ := X.leave (v := some (.int 1)) (hlocks := hlocks) (fun h => by rw [hr] at h; cases h)
  have hmeth' : T.vm.method? m = some meth := X.method'
  refine ⟨T.setFrames fs, ?_, .returned (some (.int 1)), hrun, hended, rfl, ⟨_, rfl⟩, hW, hframe⟩
  jvm_step X.here [X.here.top, hx, hb, hdg, hmeth', hr, ret, narrow_b1]
  (try refine ⟨rfl, ?_⟩); (try refine ⟨rfl, ?_⟩)
  first | (intro acts; rw [hret _ acts rfl rfl rfl]) | rw [hret _ _ rfl rfl rfl]
  exact Steps.refl _
/-- what holds at the law's entry: the machine, the code, the tables' words (any of lw_tbl by 'hts w (by decide +kernel)'), the script of L ints xs at the cell b, what the Statement gives of the start (any of its parts by flat_of_before) -/
def lw_At (p : Program) (s : State) (m : MethodId) (meth : Method) (c : Code) (b L : Nat) (xs : Nat → Int32) : Prop :=
  p.tables.exec = Jvm.exec ∧ c.code = code ∧ meth.sig.returnType = ret ∧ c.maxLocals = 4 ∧ s.vm.findClass R_law = some m.cls ∧ (∀ w ∈ lw_tbl, w.before #[Value.ref b] s = true) ∧ va_X b L xs s s.heap ∧ b < s.heap.size ∧ meth.locks = false ∧ (Jvm.Cond.and given_1 narrow_1).before #[Value.ref b] s = true
/-! The law's walk out of one equation about the abstract machine (the rows above are the skeleton's). -/
theorem am_inst (k : Nat) (h : k < 6) : Cond.instantiable (am_cn k) (am_N k) ∈ am_tb := by
  have h1 : am_nl.any (fun q => decide (q.2.2.1 = k)) = true := by
    match k, h with
    | 0, _ => decide
    | 1, _ => decide
    | 2, _ => decide
    | 3, _ => decide
    | 4, _ => decide
    | 5, _ => decide
  obtain ⟨q, hq, h2⟩ := List.any_eq_true.mp h1
  have h3 := List.all_eq_true.mp am_nl_ok q hq
  obtain ⟨o', i', a', p, p2, p3⟩ := q
  simp only [decide_eq_true_eq] at h2
  subst h2
  simp only [am_nk, Bool.and_eq_true, decide_eq_true_eq] at h3
  exact am_wd_ok h3.1.2
theorem am_arr {args : Array Value} {s : State} {ty : FieldType} (h : (Cond.arrayClass ty).before args s = true) : ∃ cA : ClassId, ArrOfT s cA ty ∧ s.vm.findClass ("[" ++ ty.toString) = some cA := by
  obtain ⟨cA, kA, comp, hfind, hk, hkind⟩ := Cond.arrayClass_spec h
  exact ⟨cA, fun n z => ⟨fun k h => (by cases h), kA, hk, comp, hkind⟩, hfind⟩
/-- the places at the law's entry: the script alone -/
def am_h0 (L : Nat) (xs : Nat → Int32) : am_H := (0, 0, fun k => if k = 0 then some (.inl (.int, L, .inl xs)) else none)
theorem am_law {p : Program} {e : Env} {s : State} {m : MethodId} {below : List Frame} {meth : Method} {c : Code} (l : Launch) {b L : Nat} {xs : Nat → Int32} (ms : List am_Q) (hms : ∀ (j : Nat) (q : am_Q), ms[j]? = some q → am_gd j q) (cd : List am_I) (hcd : am_vl 6 false ret code cd = true) (hpc : am_pc cd = 0) (d : Nat) (hd : d + 1 ≤ 1312) (h' : am_H) (hcells : h'.1 ≤ 600000) (hslots : h'.2.1 ≤ 7302250)
    (hrun : am_X (am_ev ms d) cd (cd, [some (.ref 0), none, none, none], [], am_h0 L xs) = some (some (.int 1), h')) (C0 : lw_At p s m meth c b L xs) : W p l e room_1 s m #[Value.ref b] below meth c s.heap [] 0 0 (lw_Z below #[Value.ref b] s) (entryFrame m ([Value.ref b] : List Value).toArray 4) := by
  obtain ⟨hx, hb, hr, hml, hown, hts, hX, hbl, hlocks, hgv⟩ := id C0
  have hts' : ∀ w ∈ am_tb, w.before #[Value.ref b] s = true := fun w h => hts w (am_tb_in w h)
  have hkn : ∀ k : Nat, ∃ z : ClassId × (Nat → Nat), k < 6 → u_Kn s (am_cn k) (am_T k) (am_N k) z.1 z.2 := by
    intro k
    by_cases hk : k < 6
    · obtain ⟨cC, iS, h1⟩ := u_known (C := am_cn k) (T := am_T k) (N := am_N k) (n := am_N k) hts' (am_cls k hk).2.1 (hts' _ (am_inst k hk))
      exact ⟨(cC, iS), fun _ => h1⟩
    · exact ⟨(0, fun _ => 0), fun h => absurd h hk⟩
  obtain ⟨cI, hI1, hI2⟩ := am_arr (hts' _ am_w_int)
  obtain ⟨cL, hL1, hL2⟩ := am_arr (hts' _ am_w_long)
  obtain ⟨cB, hB1, hB2⟩ := am_arr (hts' _ am_w_boolean)
  obtain ⟨dz, hdz⟩ := Classical.axiomOfChoice hkn
  have hK : am_K ((fun k => (dz k).1), (fun k => (dz k).2)) (fun ty => match ty with | .int => cI | .long => cL | _ => cB) s := by
    refine ⟨⟨fun k q hq => ?_, fun k q hq => ?_⟩, fun w hw => ?_⟩
    · have hk : k < 6 := (List.getElem?_eq_some_iff.mp hq).1
      have h1 := (am_cls k hk).1
      rw [hq] at h1
      cases h1
      exact hdz k hk
    · have hk : k < 3 := (List.getElem?_eq_some_iff.mp hq).1
      match k, hk with
      | 0, _ => cases hq; exact ⟨hI1, hI2⟩
      | 1, _ => cases hq; exact ⟨hL1, hL2⟩
      | 2, _ => cases hq; exact ⟨hB1, hB2⟩
    · obtain ⟨a, i, x, q, rfl⟩ := am_nst_form w hw
      exact va_Nw.of rfl (hts _ (am_nst_in _ hw))
  generalize ((fun k => (dz k).1), (fun k => (dz k).2)) = D at hK
  generalize (fun ty : FieldType => match ty with | .int => cI | .long => cL | _ => cB) = dA at hK
  have hP : am_P D dA b s.heap.size (am_h0 L xs) s s.heap := by
    refine ⟨rfl, fun k e' h => ?_, fun e' h => ?_⟩
    · simp [am_h0] at h
    · simp [am_h0] at h
      subst h
      exact ⟨L, xs, rfl, hX⟩
  have C : am_C D dA 6 code 4 ret false p s m #[Value.ref b] meth c := ⟨hx, hb, hml, hown, hts', hr, hlocks, fun h => (by cases h), hK⟩
  obtain ⟨nn, hn⟩ := am_X_iff.mp hrun
  have hM := am_ev_M l D dA b s.heap.size hbl ms hms d
  have hen := am_lv.entry 4 b s.heap.size [.ref 0] (by decide)
  have key := am_runs (l := l) (e := e) (below := below) (R := room_1) (Q := lw_Z below #[Value.ref b] s) (k0 := 0) (n0 := 0) (r := some (.int 1)) (h' := h') hms hM (by show d + 1 ≤ 2048; omega) (by show 64 * (d + 1) ≤ 84000; omega) hbl C hcd ⟨by show h'.1 - 0 ≤ 600000; omega, by show h'.2.1 - 0 ≤ 7302250; omega⟩
    (fun x hr2 hrt pc ls H locs hd2 hP' hS => by
      cases hr2
      refine W.widen (k := 600000) (n := 7302250) (by omega) (by omega) ?_
      refine va_forget (fun q hq => hS.2.2 q hq) ?_
      exact lw_ret hx hb hr hlocks hd2)
    (fun x hr2 => by cases hr2)
    (fun hr2 => by cases hr2)
    nn _ hn hcd (Nat.zero_le _) (Nat.zero_le _) 0 hpc s.heap [] _ hP va_S.rf hen
  rw [lg_entry_eq]
  exact key
