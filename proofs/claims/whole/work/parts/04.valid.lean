/-! When a table of instructions is a method's code. -/
def am_dc (cc : ByteArray) (pc : Nat) (ins : Instr) (n : Nat) : Bool := match decode cc pc with
  | .ok (i, k) => decide (i = ins) && decide (k = n)
  | .error _ => false
def am_dx (cc : ByteArray) (pc : Nat) (ins : Instr) : Bool := match decode cc pc with
  | .ok (i, _) => decide (i = ins)
  | .error _ => false
theorem am_dc_ok {cc : ByteArray} {pc : Nat} {ins : Instr} {n : Nat} (h : am_dc cc pc ins n = true) : decode cc pc = .ok (ins, n) := by
  unfold am_dc at h
  split at h
  · rename_i i k hd
    simp only [Bool.and_eq_true, decide_eq_true_eq] at h
    rw [hd, h.1, h.2]
  · cases h
theorem am_dx_ok {cc : ByteArray} {pc : Nat} {ins : Instr} (h : am_dx cc pc ins = true) : ∃ n, decode cc pc = .ok (ins, n) := by
  unfold am_dx at h
  split at h
  · rename_i i k hd
    simp only [decide_eq_true_eq] at h
    exact ⟨k, by rw [hd, h]⟩
  · cases h
def am_tsw (pc a : Nat) (d lo hi : Int) (offs : List Int) (sw : List (Int32 × Nat)) : Bool :=
  decide ((pc : Int) + d = (a : Int)) && decide (hi + 1 = lo + offs.length) && decide (sw.length = offs.length) && (List.range offs.length).all (fun i => match sw[i]?, offs[i]? with
    | some (k, t), some o => decide (k.toInt = lo + i) && decide ((pc : Int) + o = (t : Int))
    | _, _ => false)
/-- parameters of method j, without 'this' -/
def am_np (j : Nat) : Option Nat := match am_my[j]? with
  | some y => (parseMethodDescriptor y.desc).map (fun d => d.parameters.length)
  | none => none
def am_vi (o : Nat) (ini : Bool) (rt : Option FieldType) (cc : ByteArray) (e : am_I) (nx : Nat) : Bool := match e with
  | (pc, ins, a, b, v, sw) => match ins with
    | .iconst n => am_dc cc pc ins 1 && decide (nx = pc + 1) && decide (v = .int (Int32.ofInt n))
    | .bipush n => am_dc cc pc ins 2 && decide (nx = pc + 2) && decide (v = .int (Int8.ofInt n).toInt32)
    | .sipush n => am_dc cc pc ins 3 && decide (nx = pc + 3) && decide (v = .int (Int16.ofInt n).toInt32)
    | .lconst n => am_dc cc pc ins 1 && decide (nx = pc + 1) && decide (v = .long (Int64.ofNat (n : Nat)))
    | .ldc i => am_dc cc pc ins 2 && decide (nx = pc + 2) && am_ki.any (fun q => decide (q.1 = o) && decide (q.2.1 = i) && decide (v = .int q.2.2.1))
    | .ldc2_w i => am_dc cc pc ins 3 && decide (nx = pc + 3) && am_kl.any (fun q => decide (q.1 = o) && decide (q.2.1 = i) && decide (v = .long q.2.2.1))
    | .iload _ | .lload _ | .aload _ | .istore _ | .lstore _ | .astore _ => am_dc cc pc ins 2 && decide (nx = pc + 2)
    | .iload_n _ | .lload_n _ | .aload_n _ | .istore_n _ | .lstore_n _ | .astore_n _ => am_dc cc pc ins 1 && decide (nx = pc + 1)
    | .iinc _ n => am_dc cc pc ins 3 && decide (nx = pc + 3) && decide (v = .int (Int32.ofInt n))
    | .iadd | .isub | .imul | .iand | .ishr | .idiv | .irem | .ladd | .lsub | .land | .lor | .lcmp | .lshl | .i2l | .l2i | .dup | .pop | .dup2 => am_dc cc pc ins 1 && decide (nx = pc + 1)
    | .ifCond _ off => am_dc cc pc ins 3 && decide (nx = pc + 3) && decide ((pc : Int) + off = (a : Int))
    | .if_icmp _ off => am_dc cc pc ins 3 && decide (nx = pc + 3) && decide ((pc : Int) + off = (a : Int))
    | .goto off => am_dc cc pc ins 3 && decide ((pc : Int) + off = (a : Int))
    | .tableswitch d lo hi offs => am_dx cc pc ins && am_tsw pc a d lo hi offs.toList sw
    | .lookupswitch d ps => am_dx cc pc ins && decide ((pc : Int) + d = (a : Int)) && am_lks pc ps.toList sw && (ps.toList.zip (ps.toList.drop 1)).all (fun (a, next) => a.1 < next.1)
    | .getfield i => am_dc cc pc ins 3 && decide (nx = pc + 3) && am_fl.any (fun q => decide (q.1 = o) && decide (q.2.1 = i) && decide (q.2.2.1 = a) && decide (q.2.2.2.1 = b))
    | .putfield i => am_dc cc pc ins 3 && decide (nx = pc + 3) && am_fl.any (fun q => decide (q.1 = o) && decide (q.2.1 = i) && decide (q.2.2.1 = a) && decide (q.2.2.2.1 = b)) && (!(am_T a b).2.2.2 || (ini && decide ((am_T a b).1 = am_cn o)))
    | .iaload | .baload | .laload | .iastore | .bastore | .lastore | .arraylength => am_dc cc pc ins 1 && decide (nx = pc + 1)
    | .newarray _ => am_dc cc pc ins 2 && decide (nx = pc + 2)
    | .new i => am_dc cc pc ins 3 && decide (nx = pc + 3) && am_nl.any (fun q => decide (q.1 = o) && decide (q.2.1 = i) && decide (q.2.2.1 = a))
    | .invokevirtual i => am_dc cc pc ins 3 && decide (nx = pc + 3) && am_ml.any (fun q => decide (q.1 = 0) && decide (q.2.1 = o) && decide (q.2.2.1 = i) && decide (q.2.2.2.1 = a)) && decide (am_np a = some b) && (match v, am_my[a]? with
      | .ref c, some y => decide (c < 6) && decide (am_cn c = y.cls)
      | _, _ => false)
    | .invokespecial i => am_dc cc pc ins 3 && decide (nx = pc + 3) && (match v with
      | .null => am_ml.any (fun q => decide (q.1 = 5) && decide (q.2.1 = o) && decide (q.2.2.1 = i))
      | .int 0 => am_ml.any (fun q => decide (q.1 = 1) && decide (q.2.1 = o) && decide (q.2.2.1 = i) && decide (q.2.2.2.1 = a)) && decide (am_np a = some b)
      | .int 1 => (match am_my[a]? with
        | some y => decide (Cond.methodLinkNest (am_cn o) i y RX4 ∈ am_nst)
        | none => false) && am_ml.any (fun q => decide (q.1 = 3) && decide (q.2.1 = o) && decide (q.2.2.1 = i) && decide (q.2.2.2.1 = a)) && decide (am_np a = some b)
      | _ => false)
    | .invokestatic i => am_dc cc pc ins 3 && decide (nx = pc + 3) && (match v with
      | .null => am_ml.any (fun q => decide (q.1 = 6) && decide (q.2.1 = o) && decide (q.2.2.1 = i))
      | .long _ => am_ml.any (fun q => decide (q.1 = 7) && decide (q.2.1 = o) && decide (q.2.2.1 = i))
      | .int 0 => am_ml.any (fun q => decide (q.1 = 2) && decide (q.2.1 = o) && decide (q.2.2.1 = i) && decide (q.2.2.2.1 = a)) && decide (am_np a = some b)
      | .int 1 => (match am_my[a]? with
        | some y => decide (Cond.methodLinkNest (am_cn o) i y RX4 ∈ am_nst)
        | none => false) && am_ml.any (fun q => decide (q.1 = 4) && decide (q.2.1 = o) && decide (q.2.2.1 = i) && decide (q.2.2.2.1 = a)) && decide (am_np a = some b)
      | _ => false)
    | .ireturn => am_dc cc pc ins 1 && ((decide (rt = some .int) && decide (a = 0)) || (decide (rt = some .boolean) && decide (a = 1)))
    | .lreturn => am_dc cc pc ins 1 && decide (rt = some .long)
    | .return_ => am_dc cc pc ins 1 && decide (rt = none)
    | _ => false
def am_vl (o : Nat) (ini : Bool) (rt : Option FieldType) (cc : ByteArray) : List am_I → Bool
  | [] => true
  | e :: r => am_vi o ini rt cc e (am_pc r) && am_vl o ini rt cc r
theorem am_vl_jmp {o : Nat} {ini : Bool} {rt : Option FieldType} {cc : ByteArray} (t : Nat) : ∀ cd : List am_I, am_vl o ini rt cc cd = true → am_vl o ini rt cc (am_jmp cd t) = true
  | [], _ => rfl
  | e :: r, h => by
    unfold am_jmp
    by_cases he : e.1 = t
    · rw [if_pos he]; exact h
    · rw [if_neg he]
      simp only [am_vl, Bool.and_eq_true] at h
      exact am_vl_jmp t r h.2
theorem am_fl_at {o i a b : Nat} (h : am_fl.any (fun q => decide (q.1 = o) && decide (q.2.1 = i) && decide (q.2.2.1 = a) && decide (q.2.2.2.1 = b)) = true) : a < 6 ∧ b < am_N a ∧ Cond.fieldLink (am_cn o) i (am_T a b).1 (am_T a b).2.1 (am_T a b).2.2.1 ∈ am_tb := by
  obtain ⟨q, hq, h1⟩ := List.any_eq_true.mp h
  have h2 := List.all_eq_true.mp am_fl_ok q hq
  obtain ⟨o', i', a', b', p⟩ := q
  simp only [Bool.and_eq_true, decide_eq_true_eq] at h1
  obtain ⟨⟨⟨rfl, rfl⟩, rfl⟩, rfl⟩ := h1
  simp only [am_fk, Bool.and_eq_true, decide_eq_true_eq] at h2
  exact ⟨h2.1.1, h2.1.2, am_wd_ok h2.2⟩
theorem am_nl_at {o i a : Nat} (h : am_nl.any (fun q => decide (q.1 = o) && decide (q.2.1 = i) && decide (q.2.2.1 = a)) = true) : a < 6 ∧ Cond.classLink (am_cn o) i (am_cn a) ∈ am_tb ∧ Cond.instantiable (am_cn a) (am_N a) ∈ am_tb ∧ Cond.initialized (am_cn a) ∈ am_tb := by
  obtain ⟨q, hq, h1⟩ := List.any_eq_true.mp h
  have h2 := List.all_eq_true.mp am_nl_ok q hq
  obtain ⟨o', i', a', p, p2, p3⟩ := q
  simp only [Bool.and_eq_true, decide_eq_true_eq] at h1
  obtain ⟨⟨rfl, rfl⟩, rfl⟩ := h1
  simp only [am_nk, Bool.and_eq_true, decide_eq_true_eq] at h2
  exact ⟨h2.1.1.1, am_wd_ok h2.1.1.2, am_wd_ok h2.1.2, am_wd_ok h2.2⟩
theorem am_ki_at {o i : Nat} {v : Value} (h : am_ki.any (fun q => decide (q.1 = o) && decide (q.2.1 = i) && decide (v = .int q.2.2.1)) = true) : ∃ x, v = .int x ∧ Cond.constant (am_cn o) i x ∈ am_tb := by
  obtain ⟨q, hq, h1⟩ := List.any_eq_true.mp h
  have h2 := List.all_eq_true.mp am_ki_ok q hq
  obtain ⟨o', i', x, p⟩ := q
  simp only [Bool.and_eq_true, decide_eq_true_eq] at h1
  obtain ⟨⟨rfl, rfl⟩, rfl⟩ := h1
  exact ⟨x, rfl, am_wd_ok h2⟩
theorem am_kl_at {o i : Nat} {v : Value} (h : am_kl.any (fun q => decide (q.1 = o) && decide (q.2.1 = i) && decide (v = .long q.2.2.1)) = true) : ∃ x, v = .long x ∧ Cond.constantLong (am_cn o) i x ∈ am_tb := by
  obtain ⟨q, hq, h1⟩ := List.any_eq_true.mp h
  have h2 := List.all_eq_true.mp am_kl_ok q hq
  obtain ⟨o', i', x, p⟩ := q
  simp only [Bool.and_eq_true, decide_eq_true_eq] at h1
  obtain ⟨⟨rfl, rfl⟩, rfl⟩ := h1
  exact ⟨x, rfl, am_wd_ok h2⟩
theorem am_ml_at {k o i a : Nat} (h : am_ml.any (fun q => decide (q.1 = k) && decide (q.2.1 = o) && decide (q.2.2.1 = i) && decide (q.2.2.2.1 = a)) = true) : ∃ p1 p2 p3 p4, am_mk (k, o, i, a, p1, p2, p3, p4) = true := by
  obtain ⟨q, hq, h1⟩ := List.any_eq_true.mp h
  have h2 := List.all_eq_true.mp am_ml_ok q hq
  obtain ⟨k', o', i', a', p1, p2, p3, p4⟩ := q
  simp only [Bool.and_eq_true, decide_eq_true_eq] at h1
  obtain ⟨⟨⟨rfl, rfl⟩, rfl⟩, rfl⟩ := h1
  exact ⟨_, _, _, _, h2⟩
theorem am_ml_at0 {k o i : Nat} (h : am_ml.any (fun q => decide (q.1 = k) && decide (q.2.1 = o) && decide (q.2.2.1 = i)) = true) : ∃ a p1 p2 p3 p4, am_mk (k, o, i, a, p1, p2, p3, p4) = true := by
  obtain ⟨q, hq, h1⟩ := List.any_eq_true.mp h
  have h2 := List.all_eq_true.mp am_ml_ok q hq
  obtain ⟨k', o', i', a', p1, p2, p3, p4⟩ := q
  simp only [Bool.and_eq_true, decide_eq_true_eq] at h1
  obtain ⟨⟨rfl, rfl⟩, rfl⟩ := h1
  exact ⟨_, _, _, _, _, h2⟩
theorem am_mk_y {k o i a p1 p2 p3 p4 : Nat} (h : am_mk (k, o, i, a, p1, p2, p3, p4) = true) : ∃ y, am_my[a]? = some y := by
  cases hy : am_my[a]? with
  | none => simp [am_mk, hy] at h
  | some y => exact ⟨y, rfl⟩
theorem am_mk_0 {o i a p1 p2 p3 p4 : Nat} {y : MethodName} (hy : am_my[a]? = some y) (h : am_mk (0, o, i, a, p1, p2, p3, p4) = true) : Cond.methodLink (am_cn o) i y ∈ am_tb ∧ Cond.instanceMethod y ∈ am_tb ∧ Cond.selects y.cls y y ∈ am_tb ∧ Cond.initialized y.cls ∈ am_tb := by
  simp only [am_mk, hy, Bool.and_eq_true, decide_eq_true_eq] at h
  exact ⟨am_wd_ok h.1.1.1, am_wd_ok h.1.1.2, am_wd_ok h.1.2, am_wd_ok h.2⟩
theorem am_mk_1 {o i a p1 p2 p3 p4 : Nat} {y : MethodName} (hy : am_my[a]? = some y) (h : am_mk (1, o, i, a, p1, p2, p3, p4) = true) : Cond.methodLink (am_cn o) i y ∈ am_tb ∧ Cond.instanceMethod y ∈ am_tb ∧ Cond.initialized y.cls ∈ am_tb ∧ y.name = "<init>" := by
  simp only [am_mk, hy, Bool.and_eq_true, decide_eq_true_eq] at h
  exact ⟨am_wd_ok h.1.1.1, am_wd_ok h.1.1.2, am_wd_ok h.1.2, h.2⟩
theorem am_mk_2 {o i a p1 p2 p3 p4 : Nat} {y : MethodName} (hy : am_my[a]? = some y) (h : am_mk (2, o, i, a, p1, p2, p3, p4) = true) : Cond.methodLink (am_cn o) i y ∈ am_tb ∧ Cond.static y ∈ am_tb ∧ Cond.initialized y.cls ∈ am_tb := by
  simp only [am_mk, hy, Bool.and_eq_true, decide_eq_true_eq] at h
  exact ⟨am_wd_ok h.1.1, am_wd_ok h.1.2, am_wd_ok h.2⟩
theorem am_mk_3 {o i a p1 p2 p3 p4 : Nat} {y : MethodName} (hy : am_my[a]? = some y) (h : am_mk (3, o, i, a, p1, p2, p3, p4) = true) : Cond.instanceMethod y ∈ am_tb ∧ Cond.initialized y.cls ∈ am_tb ∧ y.name = "<init>" := by
  simp only [am_mk, hy, Bool.and_eq_true, decide_eq_true_eq] at h
  exact ⟨am_wd_ok h.1.1.2, am_wd_ok h.1.2, h.2⟩
theorem am_mk_4 {o i a p1 p2 p3 p4 : Nat} {y : MethodName} (hy : am_my[a]? = some y) (h : am_mk (4, o, i, a, p1, p2, p3, p4) = true) : Cond.static y ∈ am_tb ∧ Cond.initialized y.cls ∈ am_tb := by
  simp only [am_mk, hy, Bool.and_eq_true, decide_eq_true_eq] at h
  exact ⟨am_wd_ok h.1.2, am_wd_ok h.2⟩
theorem am_mk_5 {o i a p1 p2 p3 p4 : Nat} {y : MethodName} (hy : am_my[a]? = some y) (h : am_mk (5, o, i, a, p1, p2, p3, p4) = true) : Cond.methodLink (am_cn o) i objectInit ∈ am_tb := by
  simp only [am_mk, hy] at h
  exact am_wd_ok h
theorem am_mk_6 {o i a p1 p2 p3 p4 : Nat} {y : MethodName} (hy : am_my[a]? = some y) (h : am_mk (6, o, i, a, p1, p2, p3, p4) = true) : Cond.methodLink (am_cn o) i Lib.Math.max.name ∈ am_tb := by
  simp only [am_mk, hy] at h
  exact am_wd_ok h
theorem am_mk_7 {o i a p1 p2 p3 p4 : Nat} {y : MethodName} (hy : am_my[a]? = some y) (h : am_mk (7, o, i, a, p1, p2, p3, p4) = true) : Cond.methodLink (am_cn o) i arraycopyName ∈ am_tb := by
  simp only [am_mk, hy] at h
  exact am_wd_ok h
theorem am_np_ok {a b : Nat} {y : MethodName} (hy : am_my[a]? = some y) (h : am_np a = some b) : (parseMethodDescriptor y.desc).map (fun d => d.parameters.length) = some b := by
  simp only [am_np, hy] at h
  exact h
