/-! An abstract machine over the claim's bytecode: places instead of addresses, lists instead of frames. Its runs are functions; part 03 shows that the machine does what they say. -/
/-- a place holds an array (its element type, its contents) or an object (its class, its fields) -/
abbrev am_E : Type := (FieldType × vp_A) ⊕ (Nat × List Value)
/-- places made so far, their fields and elements, what they hold (place 0: the script) -/
abbrev am_H : Type := Nat × Nat × (Nat → Option am_E)
/-- an instruction: pc, the instruction, two numbers, a value, a switch's pairs -/
abbrev am_I : Type := Nat × Instr × Nat × Nat × Value × List (Int32 × Nat)
abbrev am_L : Type := List (Option Value)
abbrev am_S : Type := List am_I × am_L × List Value × am_H
abbrev am_R : Type := Option Value × am_H
abbrev am_F : Type := Nat → List Value → am_H → Option am_R
def am_up (h : am_H) (r : Nat) (e : am_E) : am_H := (h.1, h.2.1, fun k => if k = r then some e else h.2.2 k)
def am_nw (h : am_H) (n : Nat) (e : am_E) : am_H := (h.1 + 1, h.2.1 + n, fun k => if k = h.1 + 1 then some e else h.2.2 k)
def am_gf (h : am_H) (r c k : Nat) : Option Value := match h.2.2 r with
  | some (.inr (c', fs)) => if c' = c then fs[k]? else none
  | _ => none
def am_pf (h : am_H) (r c k : Nat) (v : Value) : Option am_H := match h.2.2 r with
  | some (.inr (c', fs)) => if c' = c ∧ k < fs.length then some (am_up h r (.inr (c', fs.set k v))) else none
  | _ => none
def am_gi (h : am_H) (r : Nat) (i : Int32) : Option Int32 := match h.2.2 r with
  | some (.inl (.int, n, .inl f)) => if i < 0 ∨ n ≤ i.toNatClampNeg then none else some (f i.toNatClampNeg)
  | _ => none
def am_gz (h : am_H) (r : Nat) (i : Int32) : Option Int32 := match h.2.2 r with
  | some (.inl (.boolean, n, .inl f)) => if i < 0 ∨ n ≤ i.toNatClampNeg then none else some (f i.toNatClampNeg)
  | _ => none
def am_gl (h : am_H) (r : Nat) (i : Int32) : Option Int64 := match h.2.2 r with
  | some (.inl (.long, n, .inr (.inl f))) => if i < 0 ∨ n ≤ i.toNatClampNeg then none else some (f i.toNatClampNeg)
  | _ => none
def am_pi (h : am_H) (r : Nat) (i x : Int32) : Option am_H := match h.2.2 r with
  | some (.inl (.int, n, .inl f)) => if r = 0 ∨ i < 0 ∨ n ≤ i.toNatClampNeg then none else some (am_up h r (.inl (.int, n, .inl (upd f i.toNatClampNeg x))))
  | _ => none
def am_pz (h : am_H) (r : Nat) (i x : Int32) : Option am_H := match h.2.2 r with
  | some (.inl (.boolean, n, .inl f)) => if (r = 0 ∨ i < 0 ∨ n ≤ i.toNatClampNeg) ∨ ¬ (x = 0 ∨ x = 1) then none else some (am_up h r (.inl (.boolean, n, .inl (upd f i.toNatClampNeg x))))
  | _ => none
def am_pl (h : am_H) (r : Nat) (i : Int32) (x : Int64) : Option am_H := match h.2.2 r with
  | some (.inl (.long, n, .inr (.inl f))) => if r = 0 ∨ i < 0 ∨ n ≤ i.toNatClampNeg then none else some (am_up h r (.inl (.long, n, .inr (.inl (vp_updL f i.toNatClampNeg x)))))
  | _ => none
/-- System.arraycopy inside one array of longs -/
def am_cy (h : am_H) (r : Nat) (sp dp n : Int32) : Option am_H := match h.2.2 r with
  | some (.inl (.long, k, .inr (.inl f))) => if r = 0 ∨ sp < 0 ∨ dp < 0 ∨ n < 0 ∨ k < sp.toNatClampNeg + n.toNatClampNeg ∨ k < dp.toNatClampNeg + n.toNatClampNeg then none else some (am_up h r (.inl (.long, k, .inr (.inl (va_cpy f f sp.toNatClampNeg dp.toNatClampNeg n.toNatClampNeg)))))
  | _ => none
def am_ln (h : am_H) (r : Nat) : Option Nat := match h.2.2 r with
  | some (.inl (.int, n, .inl _)) => some n
  | some (.inl (.boolean, n, .inl _)) => some n
  | some (.inl (.long, n, .inr (.inl _))) => some n
  | _ => none
def am_cl (h : am_H) (r : Nat) : Option Nat := match h.2.2 r with
  | some (.inr (c, _)) => some c
  | _ => none
def am_two : Option Value → Bool
  | some v => v.category == 2
  | none => false
/-- a value of one word into a local -/
def am_st1 : am_L → Nat → Value → Option am_L
  | [], _, _ => none
  | _ :: r, 0, v => some (some v :: r)
  | x :: r, 1, v => if am_two x then none else (am_st1 r 0 v).map (x :: ·)
  | x :: r, i + 2, v => (am_st1 r (i + 1) v).map (x :: ·)
/-- a value of two words into a local -/
def am_st2 : am_L → Nat → Value → Option am_L
  | [], _, _ => none
  | [_], _, _ => none
  | _ :: _ :: r, 0, v => some (some v :: none :: r)
  | x :: r, 1, v => if am_two x then none else (am_st2 r 0 v).map (x :: ·)
  | x :: r, i + 2, v => (am_st2 r (i + 1) v).map (x :: ·)
def am_ld (lv : am_L) (i : Nat) : Option Value := match lv[i]? with
  | some (some v) => some v
  | _ => none
def am_cat : List Value → Nat
  | [] => 0
  | v :: r => v.category + am_cat r
def am_jmp (cd : List am_I) (t : Nat) : List am_I := match cd with
  | [] => []
  | e :: r => if e.1 = t then e :: r else am_jmp r t
def am_pc (is : List am_I) : Nat := match is with
  | [] => 0
  | e :: _ => e.1
def am_sw (sw : List (Int32 × Nat)) (d : Nat) (x : Int32) : Nat := match sw with
  | [] => d
  | (k, t) :: r => if x = k then t else am_sw r d x
/-- what a call leaves: the answer on top of the rest -/
def am_k (is : List am_I) (lv : am_L) (st : List Value) (o : Option am_R) : Option (am_S ⊕ am_R) := match o with
  | some (some v, h) => if am_cat st ≤ 8 then some (.inl (is, lv, v :: st, h)) else none
  | some (none, h) => if am_cat st ≤ 8 then some (.inl (is, lv, st, h)) else none
  | none => none
/-- arguments off the stack -/
def am_pop : Nat → List Value → List Value → Option (List Value × List Value)
  | 0, acc, st => some (acc, st)
  | n + 1, acc, v :: st => am_pop n (v :: acc) st
  | _ + 1, _, [] => none
def am_c1 (is : List am_I) (lv : am_L) (h : am_H) (g : Value → Option Value) (st : List Value) : Option (am_S ⊕ am_R) := match st with
  | x :: st => match g x with
    | some v => some (.inl (is, lv, v :: st, h))
    | none => none
  | _ => none
def am_c2 (is : List am_I) (lv : am_L) (h : am_H) (g : Value → Value → Option Value) (st : List Value) : Option (am_S ⊕ am_R) := match st with
  | y :: x :: st => match g x y with
    | some v => some (.inl (is, lv, v :: st, h))
    | none => none
  | _ => none
def am_ii (g : Int32 → Int32 → Option Value) (x y : Value) : Option Value := match x, y with
  | .int x, .int y => g x y
  | _, _ => none
def am_ll (g : Int64 → Int64 → Option Value) (x y : Value) : Option Value := match x, y with
  | .long x, .long y => g x y
  | _, _ => none
def am_cc (c : Jvm.ClassFile.Cond) (x y : Int32) : Bool := match c with
  | .eq => decide (x = y)
  | .ne => decide (¬ x = y)
  | .lt => decide (x < y)
  | .ge => decide (y ≤ x)
  | .gt => decide (y < x)
  | .le => decide (x ≤ y)
def am_ex (f : am_F) (cd : List am_I) (ins : Instr) (a b : Nat) (v : Value) (sw : List (Int32 × Nat)) (is : List am_I) (lv : am_L) (st : List Value) (h : am_H) : Option (am_S ⊕ am_R) :=
  match ins with
  | .iconst _ => some (.inl (is, lv, v :: st, h))
  | .bipush _ => some (.inl (is, lv, v :: st, h))
  | .sipush _ => some (.inl (is, lv, v :: st, h))
  | .ldc _ => some (.inl (is, lv, v :: st, h))
  | .lconst _ => some (.inl (is, lv, v :: st, h))
  | .ldc2_w _ => some (.inl (is, lv, v :: st, h))
  | .iload i => match am_ld lv i with
    | some (.int x) => some (.inl (is, lv, .int x :: st, h))
    | _ => none
  | .iload_n i => match am_ld lv i with
    | some (.int x) => some (.inl (is, lv, .int x :: st, h))
    | _ => none
  | .lload i => match am_ld lv i with
    | some (.long x) => some (.inl (is, lv, .long x :: st, h))
    | _ => none
  | .lload_n i => match am_ld lv i with
    | some (.long x) => some (.inl (is, lv, .long x :: st, h))
    | _ => none
  | .aload i => match am_ld lv i with
    | some (.ref x) => some (.inl (is, lv, .ref x :: st, h))
    | _ => none
  | .aload_n i => match am_ld lv i with
    | some (.ref x) => some (.inl (is, lv, .ref x :: st, h))
    | _ => none
  | .istore i => match st with
    | .int x :: st => (am_st1 lv i (.int x)).map (fun lv => .inl (is, lv, st, h))
    | _ => none
  | .istore_n i => match st with
    | .int x :: st => (am_st1 lv i (.int x)).map (fun lv => .inl (is, lv, st, h))
    | _ => none
  | .astore i => match st with
    | .ref x :: st => (am_st1 lv i (.ref x)).map (fun lv => .inl (is, lv, st, h))
    | _ => none
  | .astore_n i => match st with
    | .ref x :: st => (am_st1 lv i (.ref x)).map (fun lv => .inl (is, lv, st, h))
    | _ => none
  | .lstore i => match st with
    | .long x :: st => (am_st2 lv i (.long x)).map (fun lv => .inl (is, lv, st, h))
    | _ => none
  | .lstore_n i => match st with
    | .long x :: st => (am_st2 lv i (.long x)).map (fun lv => .inl (is, lv, st, h))
    | _ => none
  | .iinc i _ => match am_ld lv i, v with
    | some (.int x), .int y => (am_st1 lv i (.int (x + y))).map (fun lv => .inl (is, lv, st, h))
    | _, _ => none
  | .iadd => am_c2 is lv h (am_ii fun x y => some (.int (x + y))) st
  | .isub => am_c2 is lv h (am_ii fun x y => some (.int (x - y))) st
  | .imul => am_c2 is lv h (am_ii fun x y => some (.int (x * y))) st
  | .iand => am_c2 is lv h (am_ii fun x y => some (.int (x &&& y))) st
  | .ishr => am_c2 is lv h (am_ii fun x y => some (.int (x >>> (y &&& 31)))) st
  | .idiv => am_c2 is lv h (am_ii fun x y => if y = 0 then none else some (.int (x / y))) st
  | .irem => am_c2 is lv h (am_ii fun x y => if y = 0 then none else some (.int (x - x / y * y))) st
  | .ladd => am_c2 is lv h (am_ll fun x y => some (.long (x + y))) st
  | .lsub => am_c2 is lv h (am_ll fun x y => some (.long (x - y))) st
  | .land => am_c2 is lv h (am_ll fun x y => some (.long (x &&& y))) st
  | .lor => am_c2 is lv h (am_ll fun x y => some (.long (x ||| y))) st
  | .lcmp => am_c2 is lv h (am_ll fun x y => some (.int (lg_cmp x y))) st
  | .lshl => match st with
    | .int y :: .long x :: st => some (.inl (is, lv, .long (x <<< (y.toInt64 &&& 63)) :: st, h))
    | _ => none
  | .i2l => match st with
    | .int x :: st => some (.inl (is, lv, .long x.toInt64 :: st, h))
    | _ => none
  | .l2i => match st with
    | .long x :: st => some (.inl (is, lv, .int x.toInt32 :: st, h))
    | _ => none
  | .dup => match st with
    | x :: st => if x.category = 1 then some (.inl (is, lv, x :: x :: st, h)) else none
    | _ => none
  | .pop => match st with
    | x :: st => if x.category = 1 then some (.inl (is, lv, st, h)) else none
    | _ => none
  | .dup2 => match st with
    | x :: y :: st => if x.category = 1 ∧ y.category = 1 then some (.inl (is, lv, x :: y :: x :: y :: st, h)) else none
    | _ => none
  | .ifCond q _ => match st with
    | .int x :: st => some (.inl (if am_cc q x 0 = true then am_jmp cd a else is, lv, st, h))
    | _ => none
  | .if_icmp q _ => match st with
    | .int y :: .int x :: st => some (.inl (if am_cc q x y = true then am_jmp cd a else is, lv, st, h))
    | _ => none
  | .goto _ => some (.inl (am_jmp cd a, lv, st, h))
  | .tableswitch _ _ _ _ => match st with
    | .int x :: st => some (.inl (am_jmp cd (am_sw sw a x), lv, st, h))
    | _ => none
  | .lookupswitch _ _ => match st with
    | .int x :: st => some (.inl (am_jmp cd (am_sw sw a x), lv, st, h))
    | _ => none
  | .getfield _ => match st with
    | .ref r :: st => match am_gf h r a b with
      | some v => some (.inl (is, lv, v :: st, h))
      | none => none
    | _ => none
  | .putfield _ => match st with
    | w :: .ref r :: st => if narrow (am_ty a b) w = w ∧ fits (am_ty a b) w = true then (match am_pf h r a b w with
      | some h => some (.inl (is, lv, st, h))
      | none => none) else none
    | _ => none
  | .iaload => match st with
    | .int i :: .ref r :: st => match am_gi h r i with
      | some x => some (.inl (is, lv, .int x :: st, h))
      | none => none
    | _ => none
  | .baload => match st with
    | .int i :: .ref r :: st => match am_gz h r i with
      | some x => some (.inl (is, lv, .int x :: st, h))
      | none => none
    | _ => none
  | .laload => match st with
    | .int i :: .ref r :: st => match am_gl h r i with
      | some x => some (.inl (is, lv, .long x :: st, h))
      | none => none
    | _ => none
  | .iastore => match st with
    | .int x :: .int i :: .ref r :: st => match am_pi h r i x with
      | some h => some (.inl (is, lv, st, h))
      | none => none
    | _ => none
  | .bastore => match st with
    | .int x :: .int i :: .ref r :: st => match am_pz h r i x with
      | some h => some (.inl (is, lv, st, h))
      | none => none
    | _ => none
  | .lastore => match st with
    | .long x :: .int i :: .ref r :: st => match am_pl h r i x with
      | some h => some (.inl (is, lv, st, h))
      | none => none
    | _ => none
  | .arraylength => match st with
    | .ref r :: st => match am_ln h r with
      | some n => some (.inl (is, lv, .int (Int32.ofNat n) :: st, h))
      | none => none
    | _ => none
  | .newarray t => match st with
    | .int n :: st => if n < 0 ∨ 1000000 < n.toNatClampNeg then none else match t with
      | .int => some (.inl (is, lv, .ref (h.1 + 1) :: st, am_nw h n.toNatClampNeg (.inl (.int, n.toNatClampNeg, .inl (fun _ => 0)))))
      | .boolean => some (.inl (is, lv, .ref (h.1 + 1) :: st, am_nw h n.toNatClampNeg (.inl (.boolean, n.toNatClampNeg, .inl (fun _ => 0)))))
      | .long => some (.inl (is, lv, .ref (h.1 + 1) :: st, am_nw h n.toNatClampNeg (.inl (.long, n.toNatClampNeg, .inr (.inl (fun _ => 0))))))
      | _ => none
    | _ => none
  | .new _ => some (.inl (is, lv, .ref (h.1 + 1) :: st, am_nw h (am_N a) (.inr (a, am_df a))))
  | .invokevirtual _ => match v with
    | .ref c => match am_pop b [] st with
      | some (As, .ref r :: st) => if am_cl h r = some c then am_k is lv st (f a (.ref r :: As) h) else none
      | _ => none
    | _ => none
  | .invokespecial _ => match v with
    | .null => match st with
      | .ref _ :: st => if am_cat st ≤ 8 then some (.inl (is, lv, st, h)) else none
      | _ => none
    | _ => match am_pop b [] st with
      | some (As, .ref r :: st) => am_k is lv st (f a (.ref r :: As) h)
      | _ => none
  | .invokestatic _ => match v with
    | .null => match st with
      | .int y :: .int x :: st => if am_cat st ≤ 8 then some (.inl (is, lv, .int (if x < y then y else x) :: st, h)) else none
      | _ => none
    | .long _ => match st with
      | .int n :: .int dp :: .ref r' :: .int sp :: .ref r :: st => if r = r' ∧ am_cat st ≤ 8 then (match am_cy h r sp dp n with
        | some h => some (.inl (is, lv, st, h))
        | none => none) else none
      | _ => none
    | _ => match am_pop b [] st with
      | some (As, st) => am_k is lv st (f a As h)
      | _ => none
  | .ireturn => match st with
    | [.int x] => if a = 0 ∨ x = 0 ∨ x = 1 then some (.inr (some (.int x), h)) else none
    | _ => none
  | .lreturn => match st with
    | [.long x] => some (.inr (some (.long x), h))
    | _ => none
  | .return_ => match st with
    | [] => some (.inr (none, h))
    | _ => none
  | _ => none
def am_step (f : am_F) (cd : List am_I) (s : am_S) : Option (am_S ⊕ am_R) := match s with
  | ((_, ins, a, b, v, sw) :: is, lv, st, h) => am_ex f cd ins a b v sw is lv st h
  | _ => none
def am_run (f : am_F) (cd : List am_I) : Nat → am_S → Option am_R
  | 0, _ => none
  | n + 1, s => match am_step f cd s with
    | some (.inl s') => am_run f cd n s'
    | some (.inr r) => some r
    | none => none
theorem am_run_mono (f : am_F) (cd : List am_I) : ∀ (n k : Nat) (s : am_S) (r : am_R), am_run f cd n s = some r → am_run f cd (n + k) s = some r
  | 0, _, _, _, h => by simp [am_run] at h
  | n + 1, k, s, r, h => by
    rw [show n + 1 + k = (n + k) + 1 by omega]
    unfold am_run at h ⊢
    cases hs : am_step f cd s with
    | none => rw [hs] at h; cases h
    | some o =>
      rw [hs] at h
      cases o with
      | inl s' => exact am_run_mono f cd n k s' r h
      | inr r' => exact h
theorem am_ex1 (f : am_F) (cd : List am_I) (s : am_S) : ∃ o : Option am_R, ∀ r, o = some r ↔ ∃ n, am_run f cd n s = some r := by
  rcases Classical.em (∃ r n, am_run f cd n s = some r) with ⟨r, n, h⟩ | h
  · refine ⟨some r, fun r' => ⟨fun e => (by cases e; exact ⟨n, h⟩), fun ⟨n', h'⟩ => ?_⟩⟩
    have h1 := am_run_mono f cd n n' s r h
    have h2 := am_run_mono f cd n' n s r' h'
    rw [Nat.add_comm] at h2
    exact h1.symm.trans h2
  · exact ⟨none, fun r => ⟨fun e => (by cases e), fun ⟨n, h'⟩ => absurd ⟨r, n, h'⟩ h⟩⟩
/-- a run to its end -/
noncomputable def am_X (f : am_F) (cd : List am_I) (s : am_S) : Option am_R := Classical.choose (am_ex1 f cd s)
theorem am_X_iff {f : am_F} {cd : List am_I} {s : am_S} {r : am_R} : am_X f cd s = some r ↔ ∃ n, am_run f cd n s = some r := Classical.choose_spec (am_ex1 f cd s) r
theorem am_X_step {f : am_F} {cd : List am_I} {s s' : am_S} (h : am_step f cd s = some (.inl s')) : am_X f cd s = am_X f cd s' := by
  have key : ∀ r, am_X f cd s = some r ↔ am_X f cd s' = some r := by
    intro r
    rw [am_X_iff, am_X_iff]
    constructor
    · rintro ⟨n, hn⟩
      cases n with
      | zero => simp [am_run] at hn
      | succ n => unfold am_run at hn; rw [h] at hn; exact ⟨n, hn⟩
    · rintro ⟨n, hn⟩
      exact ⟨n + 1, by unfold am_run; rw [h]; exact hn⟩
  cases h1 : am_X f cd s with
  | some r => exact ((key r).mp h1).symm
  | none =>
    cases h2 : am_X f cd s' with
    | none => rfl
    | some r => rw [(key r).mpr h2] at h1; cases h1
theorem am_X_end {f : am_F} {cd : List am_I} {s : am_S} {r : am_R} (h : am_step f cd s = some (.inr r)) : am_X f cd s = some r :=
  am_X_iff.mpr ⟨1, by unfold am_run; rw [h]⟩
theorem am_X_bad {f : am_F} {cd : List am_I} {s : am_S} (h : am_step f cd s = none) : am_X f cd s = none := by
  cases h1 : am_X f cd s with
  | none => rfl
  | some r =>
    obtain ⟨n, hn⟩ := am_X_iff.mp h1
    cases n with
    | zero => simp [am_run] at hn
    | succ n => unfold am_run at hn; rw [h] at hn; cases hn
/-- locals at a method's entry -/
def am_ar : List Value → am_L
  | [] => []
  | .long x :: r => some (.long x) :: none :: am_ar r
  | .double x :: r => some (.double x) :: none :: am_ar r
  | v :: r => some v :: am_ar r
def am_en (n : Nat) (As : List Value) : am_L := am_ar As ++ List.replicate (n - (am_ar As).length) none
/-- a method: owner, name, bytes, locals, answer, constructor?, code -/
abbrev am_Q : Type := Nat × MethodName × ByteArray × Nat × Option FieldType × Bool × List am_I
noncomputable def am_ev (ms : List am_Q) : Nat → am_F
  | 0, _, _, _ => none
  | d + 1, j, As, h => match ms[j]? with
    | some (_, _, _, n, _, _, cd) => if (am_ar As).length ≤ n then am_X (am_ev ms d) cd (cd, am_en n As, [], h) else none
    | none => none
