/-! One step of the abstract machine is a step of the machine. -/
def am_C (D : va_G) (dA : FieldType → ClassId) (o : Nat) (cc : ByteArray) (nL : Nat) (rt : Option FieldType) (ini : Bool) (p : Program) (s : State) (m : MethodId) (args : Array Value) (meth : Method) (c : Code) : Prop :=
  p.tables.exec = Jvm.exec ∧ c.code = cc ∧ c.maxLocals = nL ∧ s.vm.findClass (am_cn o) = some m.cls ∧ (∀ w ∈ am_tb, w.before args s = true) ∧ meth.sig.returnType = rt ∧ meth.locks = false ∧ (ini = true → meth.name = "<init>") ∧ am_K D dA s
def am_G (p : Program) (l : Launch) (e : Env) (R : Room) (s : State) (m : MethodId) (args : Array Value) (below : List Frame) (meth : Method) (c : Code) (Q : State → Prop) (D : va_G) (dA : FieldType → ClassId) (b0 sz nL k0 n0 : Nat) (σ : am_S) : Prop :=
  ∀ pc : Nat, am_pc σ.1 = pc → ∀ (H : Heap) (locs : List Loc) (ls : Array Slot), am_P D dA b0 sz σ.2.2.2 s H → va_S (fun q => sz ≤ q) s.heap H locs → am_lv nL b0 sz σ.2.1 ls → W p l e R s m args below meth c H locs (σ.2.2.2.1 - k0) (σ.2.2.2.2.1 - n0) Q (F0 m pc ls (σ.2.2.1.map (am_rl b0 sz)))
section AMA
variable {p : Program} {l : Launch} {e : Env} {R : Room} {s : State} {m : MethodId} {args : Array Value} {below : List Frame} {meth : Method} {c : Code} {Q : State → Prop} {D : va_G} {dA : FieldType → ClassId} {b0 sz nL k0 n0 o : Nat} {cc : ByteArray} {rt : Option FieldType} {ini : Bool} {f : am_F} {cd : List am_I} {pc a b : Nat} {ins : Instr} {v : Value} {sw : List (Int32 × Nat)} {is : List am_I} {lv : am_L} {st : List Value} {h : am_H} {σ : am_S}
/-- the instructions of locals, stack, arithmetic and branches -/
def am_pl1 : Instr → Bool
  | .iconst _ | .bipush _ | .sipush _ | .ldc _ | .lconst _ | .ldc2_w _ | .iload _ | .iload_n _ | .lload _ | .lload_n _ | .aload _ | .aload_n _ | .istore _ | .istore_n _ | .astore _ | .astore_n _ | .lstore _ | .lstore_n _ | .iinc _ _ => true
  | _ => false
set_option maxHeartbeats 4000000 in
theorem am_one1 (C : am_C D dA o cc nL rt ini p s m args meth c) (hq : am_pl1 ins = true) (hst : am_ex f cd ins a b v sw is lv st h = some (.inl σ)) (hv : am_vi o ini rt cc (pc, ins, a, b, v, sw) (am_pc is) = true) (kk : am_G p l e R s m args below meth c Q D dA b0 sz nL k0 n0 σ) : am_G p l e R s m args below meth c Q D dA b0 sz nL k0 n0 ((pc, ins, a, b, v, sw) :: is, lv, st, h) := by
  intro pc' hpc H locs ls hP hS hl
  obtain rfl : pc = pc' := hpc
  obtain ⟨hx, hb, hml, hown, hts, hr, hlk, hini, hK⟩ := C
  cases ins <;> first
    | (exact absurd hq Bool.false_ne_true)
    | (simp only [am_vi, Bool.and_eq_true, decide_eq_true_eq] at hv)
  case iconst n =>
    cases hst
    obtain ⟨⟨hd, hnx⟩, rfl⟩ := hv
    exact lv_iconst hx hb (am_dc_ok hd) rfl (kk _ hnx H locs ls hP hS hl)
  case bipush n =>
    cases hst
    obtain ⟨⟨hd, hnx⟩, rfl⟩ := hv
    exact lv_bipush hx hb (am_dc_ok hd) rfl (kk _ hnx H locs ls hP hS hl)
  case sipush n =>
    cases hst
    obtain ⟨⟨hd, hnx⟩, rfl⟩ := hv
    exact lv_sipush hx hb (am_dc_ok hd) rfl (kk _ hnx H locs ls hP hS hl)
  case lconst n =>
    cases hst
    obtain ⟨⟨hd, hnx⟩, rfl⟩ := hv
    exact lv_lconst hx hb (am_dc_ok hd) rfl (kk _ hnx H locs ls hP hS hl)
  case ldc i =>
    cases hst
    obtain ⟨⟨hd, hnx⟩, hc⟩ := hv
    obtain ⟨x, rfl, hw⟩ := am_ki_at hc
    exact lv_ldc hx hb hown (hts _ hw) (am_dc_ok hd) (kk _ hnx H locs ls hP hS hl)
  case ldc2_w i =>
    cases hst
    obtain ⟨⟨hd, hnx⟩, hc⟩ := hv
    obtain ⟨x, rfl, hw⟩ := am_kl_at hc
    exact lv_ldc2 hx hb hown (hts _ hw) (am_dc_ok hd) (kk _ hnx H locs ls hP hS hl)
  case iload i =>
    simp only [am_ex] at hst
    split at hst
    · rename_i x hx1
      cases hst
      exact lv_iload hx hb (am_dc_ok hv.1) (hl.at hx1) (kk _ hv.2 H locs ls hP hS hl)
    · cases hst
  case iload_n i =>
    simp only [am_ex] at hst
    split at hst
    · rename_i x hx1
      cases hst
      exact lv_iload_n hx hb (am_dc_ok hv.1) rfl (hl.at hx1) (kk _ hv.2 H locs ls hP hS hl)
    · cases hst
  case lload i =>
    simp only [am_ex] at hst
    split at hst
    · rename_i x hx1
      cases hst
      exact lv_lload hx hb (am_dc_ok hv.1) (hl.at hx1) (kk _ hv.2 H locs ls hP hS hl)
    · cases hst
  case lload_n i =>
    simp only [am_ex] at hst
    split at hst
    · rename_i x hx1
      cases hst
      exact lv_lload_n hx hb (am_dc_ok hv.1) rfl (hl.at hx1) (kk _ hv.2 H locs ls hP hS hl)
    · cases hst
  case aload i =>
    simp only [am_ex] at hst
    split at hst
    · rename_i x hx1
      cases hst
      have h1 := hl.at hx1
      cases x with
      | zero => exact lv_aload hx hb (am_dc_ok hv.1) h1 (kk _ hv.2 H locs ls hP hS hl)
      | succ k => exact lv_aload hx hb (am_dc_ok hv.1) h1 (kk _ hv.2 H locs ls hP hS hl)
    · cases hst
  case aload_n i =>
    simp only [am_ex] at hst
    split at hst
    · rename_i x hx1
      cases hst
      have h1 := hl.at hx1
      cases x with
      | zero => exact lv_aload_n hx hb (am_dc_ok hv.1) rfl h1 (kk _ hv.2 H locs ls hP hS hl)
      | succ k => exact lv_aload_n hx hb (am_dc_ok hv.1) rfl h1 (kk _ hv.2 H locs ls hP hS hl)
    · cases hst
  case istore i =>
    simp only [am_ex] at hst
    split at hst
    · rename_i x st'
      cases hs : am_st1 lv i (.int x) with
      | none => rw [hs] at hst; cases hst
      | some lv' =>
        rw [hs] at hst
        cases hst
        exact lv_istore hx hb (am_dc_ok hv.1) hl.has (by rw [← hl.2.1]; exact (am_st1_spec _ _ _ _ hs).1) rfl (fun ls' h' => kk _ hv.2 H locs ls' hP hS (hl.st1 hs h'))
    · cases hst
  case istore_n i =>
    simp only [am_ex] at hst
    split at hst
    · rename_i x st'
      cases hs : am_st1 lv i (.int x) with
      | none => rw [hs] at hst; cases hst
      | some lv' =>
        rw [hs] at hst
        cases hst
        exact lv_istore_n hx hb (am_dc_ok hv.1) rfl hl.has (by rw [← hl.2.1]; exact (am_st1_spec _ _ _ _ hs).1) rfl (fun ls' h' => kk _ hv.2 H locs ls' hP hS (hl.st1 hs h'))
    · cases hst
  case astore i =>
    simp only [am_ex] at hst
    split at hst
    · rename_i x st'
      cases hs : am_st1 lv i (.ref x) with
      | none => rw [hs] at hst; cases hst
      | some lv' =>
        rw [hs] at hst
        cases hst
        cases x with
        | zero => exact lv_astore hx hb (am_dc_ok hv.1) hl.has (by rw [← hl.2.1]; exact (am_st1_spec _ _ _ _ hs).1) rfl (fun ls' h' => kk _ hv.2 H locs ls' hP hS (hl.st1 hs h'))
        | succ k => exact lv_astore hx hb (am_dc_ok hv.1) hl.has (by rw [← hl.2.1]; exact (am_st1_spec _ _ _ _ hs).1) rfl (fun ls' h' => kk _ hv.2 H locs ls' hP hS (hl.st1 hs h'))
    · cases hst
  case astore_n i =>
    simp only [am_ex] at hst
    split at hst
    · rename_i x st'
      cases hs : am_st1 lv i (.ref x) with
      | none => rw [hs] at hst; cases hst
      | some lv' =>
        rw [hs] at hst
        cases hst
        cases x with
        | zero => exact lv_astore_n hx hb (am_dc_ok hv.1) rfl hl.has (by rw [← hl.2.1]; exact (am_st1_spec _ _ _ _ hs).1) rfl (fun ls' h' => kk _ hv.2 H locs ls' hP hS (hl.st1 hs h'))
        | succ k => exact lv_astore_n hx hb (am_dc_ok hv.1) rfl hl.has (by rw [← hl.2.1]; exact (am_st1_spec _ _ _ _ hs).1) rfl (fun ls' h' => kk _ hv.2 H locs ls' hP hS (hl.st1 hs h'))
    · cases hst
  case lstore i =>
    simp only [am_ex] at hst
    split at hst
    · rename_i x st'
      cases hs : am_st2 lv i (.long x) with
      | none => rw [hs] at hst; cases hst
      | some lv' =>
        rw [hs] at hst
        cases hst
        exact lv_lstore hx hb (am_dc_ok hv.1) hl.has (by rw [← hl.2.1]; exact (am_st2_spec _ _ _ _ hs).1) rfl (fun ls' h' => kk _ hv.2 H locs ls' hP hS (hl.st2 hs h'))
    · cases hst
  case lstore_n i =>
    simp only [am_ex] at hst
    split at hst
    · rename_i x st'
      cases hs : am_st2 lv i (.long x) with
      | none => rw [hs] at hst; cases hst
      | some lv' =>
        rw [hs] at hst
        cases hst
        exact lv_lstore_n hx hb (am_dc_ok hv.1) rfl hl.has (by rw [← hl.2.1]; exact (am_st2_spec _ _ _ _ hs).1) rfl (fun ls' h' => kk _ hv.2 H locs ls' hP hS (hl.st2 hs h'))
    · cases hst
  case iinc i n =>
    obtain ⟨⟨hd, hnx⟩, rfl⟩ := hv
    simp only [am_ex] at hst
    split at hst
    · rename_i x y hx1 hy1
      cases hy1
      cases hs : am_st1 lv i (.int (x + Int32.ofInt n)) with
      | none => rw [hs] at hst; cases hst
      | some lv' =>
        rw [hs] at hst
        cases hst
        obtain ⟨k, hk⟩ := hl.pair hx1
        exact lv_iinc hx hb (am_dc_ok hd) hl.has hk rfl (by rw [← hl.2.1]; exact (am_st1_spec _ _ _ _ hs).1) rfl (fun ls' h' => kk _ hnx H locs ls' hP hS (hl.st1 hs h'))
    · cases hst
def am_pl2 : Instr → Bool
  | .iadd | .isub | .imul | .iand | .ishr | .idiv | .irem | .ladd | .lsub | .land | .lor | .lcmp | .lshl | .i2l | .l2i | .dup | .pop | .dup2 => true
  | _ => false
theorem am_c2_ii {g : Int32 → Int32 → Option Value} (hst : am_c2 is lv h (am_ii g) st = some (.inl σ)) : ∃ x y z st', st = .int y :: .int x :: st' ∧ g x y = some z ∧ σ = (is, lv, z :: st', h) := by
  unfold am_c2 at hst
  split at hst
  · rename_i y x st'
    split at hst
    · rename_i z hz
      cases hst
      unfold am_ii at hz
      split at hz
      · exact ⟨_, _, _, _, rfl, hz, rfl⟩
      · cases hz
    · cases hst
  · cases hst
theorem am_c2_ll {g : Int64 → Int64 → Option Value} (hst : am_c2 is lv h (am_ll g) st = some (.inl σ)) : ∃ x y z st', st = .long y :: .long x :: st' ∧ g x y = some z ∧ σ = (is, lv, z :: st', h) := by
  unfold am_c2 at hst
  split at hst
  · rename_i y x st'
    split at hst
    · rename_i z hz
      cases hst
      unfold am_ll at hz
      split at hz
      · exact ⟨_, _, _, _, rfl, hz, rfl⟩
      · cases hz
    · cases hst
  · cases hst
set_option maxHeartbeats 4000000 in
theorem am_one2 (C : am_C D dA o cc nL rt ini p s m args meth c) (hq : am_pl2 ins = true) (hst : am_ex f cd ins a b v sw is lv st h = some (.inl σ)) (hv : am_vi o ini rt cc (pc, ins, a, b, v, sw) (am_pc is) = true) (kk : am_G p l e R s m args below meth c Q D dA b0 sz nL k0 n0 σ) : am_G p l e R s m args below meth c Q D dA b0 sz nL k0 n0 ((pc, ins, a, b, v, sw) :: is, lv, st, h) := by
  intro pc' hpc H locs ls hP hS hl
  obtain rfl : pc = pc' := hpc
  obtain ⟨hx, hb, hml, hown, hts, hr, hlk, hini, hK⟩ := C
  cases ins <;> first
    | (exact absurd hq Bool.false_ne_true)
    | (simp only [am_vi, Bool.and_eq_true, decide_eq_true_eq] at hv)
  case iadd =>
    obtain ⟨x, y, z, st', rfl, hz, rfl⟩ := am_c2_ii hst
    cases hz
    exact lv_iadd hx hb (am_dc_ok hv.1) (kk _ hv.2 H locs ls hP hS hl)
  case isub =>
    obtain ⟨x, y, z, st', rfl, hz, rfl⟩ := am_c2_ii hst
    cases hz
    exact lv_isub hx hb (am_dc_ok hv.1) (kk _ hv.2 H locs ls hP hS hl)
  case imul =>
    obtain ⟨x, y, z, st', rfl, hz, rfl⟩ := am_c2_ii hst
    cases hz
    exact lv_imul hx hb (am_dc_ok hv.1) (kk _ hv.2 H locs ls hP hS hl)
  case iand =>
    obtain ⟨x, y, z, st', rfl, hz, rfl⟩ := am_c2_ii hst
    cases hz
    exact lv_iand hx hb (am_dc_ok hv.1) (kk _ hv.2 H locs ls hP hS hl)
  case ishr =>
    obtain ⟨x, y, z, st', rfl, hz, rfl⟩ := am_c2_ii hst
    cases hz
    exact lv_ishr hx hb (am_dc_ok hv.1) (kk _ hv.2 H locs ls hP hS hl)
  case idiv =>
    obtain ⟨x, y, z, st', rfl, hz, rfl⟩ := am_c2_ii hst
    split at hz
    · cases hz
    · rename_i hne
      cases hz
      exact lv_idiv hx hb (am_dc_ok hv.1) hne (kk _ hv.2 H locs ls hP hS hl)
  case irem =>
    obtain ⟨x, y, z, st', rfl, hz, rfl⟩ := am_c2_ii hst
    split at hz
    · cases hz
    · rename_i hne
      cases hz
      exact lv_irem hx hb (am_dc_ok hv.1) hne (kk _ hv.2 H locs ls hP hS hl)
  case ladd =>
    obtain ⟨x, y, z, st', rfl, hz, rfl⟩ := am_c2_ll hst
    cases hz
    exact lv_ladd hx hb (am_dc_ok hv.1) (kk _ hv.2 H locs ls hP hS hl)
  case lsub =>
    obtain ⟨x, y, z, st', rfl, hz, rfl⟩ := am_c2_ll hst
    cases hz
    exact lv_lsub hx hb (am_dc_ok hv.1) (kk _ hv.2 H locs ls hP hS hl)
  case land =>
    obtain ⟨x, y, z, st', rfl, hz, rfl⟩ := am_c2_ll hst
    cases hz
    exact lv_land hx hb (am_dc_ok hv.1) (kk _ hv.2 H locs ls hP hS hl)
  case lor =>
    obtain ⟨x, y, z, st', rfl, hz, rfl⟩ := am_c2_ll hst
    cases hz
    exact lv_lor hx hb (am_dc_ok hv.1) (kk _ hv.2 H locs ls hP hS hl)
  case lcmp =>
    obtain ⟨x, y, z, st', rfl, hz, rfl⟩ := am_c2_ll hst
    cases hz
    exact W.lcmp hx hb (am_dc_ok hv.1) (kk _ hv.2 H locs ls hP hS hl)
  case lshl =>
    simp only [am_ex] at hst
    split at hst
    · cases hst
      exact lv_lshl hx hb (am_dc_ok hv.1) rfl (kk _ hv.2 H locs ls hP hS hl)
    · cases hst
  case i2l =>
    simp only [am_ex] at hst
    split at hst
    · cases hst
      exact lv_i2l hx hb (am_dc_ok hv.1) rfl (kk _ hv.2 H locs ls hP hS hl)
    · cases hst
  case l2i =>
    simp only [am_ex] at hst
    split at hst
    · cases hst
      exact lv_l2i hx hb (am_dc_ok hv.1) rfl (kk _ hv.2 H locs ls hP hS hl)
    · cases hst
  case dup =>
    simp only [am_ex] at hst
    split at hst
    · split at hst
      · rename_i h1
        cases hst
        exact lv_dup hx hb (am_dc_ok hv.1) (by rw [am_rl_cat]; exact h1) (kk _ hv.2 H locs ls hP hS hl)
      · cases hst
    · cases hst
  case pop =>
    simp only [am_ex] at hst
    split at hst
    · split at hst
      · rename_i h1
        cases hst
        exact lv_pop hx hb (am_dc_ok hv.1) (by rw [am_rl_cat]; exact h1) (kk _ hv.2 H locs ls hP hS hl)
      · cases hst
    · cases hst
  case dup2 =>
    simp only [am_ex] at hst
    split at hst
    · split at hst
      · rename_i h1
        cases hst
        exact lv_dup2_11 hx hb (am_dc_ok hv.1) (by rw [am_rl_cat]; exact h1.1) (by rw [am_rl_cat]; exact h1.2) (kk _ hv.2 H locs ls hP hS hl)
      · cases hst
    · cases hst
def am_pl3 : Instr → Bool
  | .ifCond _ _ | .if_icmp _ _ | .goto _ | .tableswitch _ _ _ _ | .lookupswitch _ _ => true
  | _ => false
set_option maxHeartbeats 4000000 in
theorem am_one3 (C : am_C D dA o cc nL rt ini p s m args meth c) (hq : am_pl3 ins = true) (hst : am_ex f cd ins a b v sw is lv st h = some (.inl σ)) (hv : am_vi o ini rt cc (pc, ins, a, b, v, sw) (am_pc is) = true) (hne : σ.1 ≠ []) (kk : am_G p l e R s m args below meth c Q D dA b0 sz nL k0 n0 σ) : am_G p l e R s m args below meth c Q D dA b0 sz nL k0 n0 ((pc, ins, a, b, v, sw) :: is, lv, st, h) := by
  intro pc' hpc H locs ls hP hS hl
  obtain rfl : pc = pc' := hpc
  obtain ⟨hx, hb, hml, hown, hts, hr, hlk, hini, hK⟩ := C
  cases ins <;> first
    | (exact absurd hq Bool.false_ne_true)
    | (simp only [am_vi, Bool.and_eq_true, decide_eq_true_eq] at hv)
  case goto off =>
    cases hst
    exact lv_goto hx hb (am_dc_ok hv.1) hv.2 (kk _ (am_jmp_pc a cd hne) H locs ls hP hS hl)
  case ifCond q off =>
    obtain ⟨⟨hd, hnx⟩, ht⟩ := hv
    simp only [am_ex] at hst
    split at hst
    · rename_i x st'
      cases hst
      have kt : am_cc q x 0 = true → W p l e R s m args below meth c H locs (h.1 - k0) (h.2.1 - n0) Q (F0 m a ls (st'.map (am_rl b0 sz))) := fun hc => kk _ (by show am_pc (if am_cc q x 0 = true then am_jmp cd a else is) = a; rw [if_pos hc]; exact am_jmp_pc a cd (by simpa [hc] using hne)) H locs ls hP hS hl
      have kf : ¬ am_cc q x 0 = true → W p l e R s m args below meth c H locs (h.1 - k0) (h.2.1 - n0) Q (F0 m (pc + 3) ls (st'.map (am_rl b0 sz))) := fun hc => kk _ (by show am_pc (if am_cc q x 0 = true then am_jmp cd a else is) = _; rw [if_neg hc]; exact hnx) H locs ls hP hS hl
      cases q
      · exact lv_if_eq hx hb (am_dc_ok hd) ht (fun g => kt (by simpa [am_cc] using g)) (fun g => kf (by simpa [am_cc] using g))
      · exact lv_if_ne hx hb (am_dc_ok hd) ht (fun g => kt (by simpa [am_cc] using g)) (fun g => kf (by simpa [am_cc] using g))
      · exact lv_if_lt hx hb (am_dc_ok hd) ht (fun g => kt (by simpa [am_cc] using g)) (fun g => kf (by simpa [am_cc] using g))
      · exact lv_if_ge hx hb (am_dc_ok hd) ht (fun g => kt (by simpa [am_cc] using g)) (fun g => kf (by simpa [am_cc] using g))
      · exact lv_if_gt hx hb (am_dc_ok hd) ht (fun g => kt (by simpa [am_cc] using g)) (fun g => kf (by simpa [am_cc] using g))
      · exact lv_if_le hx hb (am_dc_ok hd) ht (fun g => kt (by simpa [am_cc] using g)) (fun g => kf (by simpa [am_cc] using g))
    · cases hst
  case if_icmp q off =>
    obtain ⟨⟨hd, hnx⟩, ht⟩ := hv
    simp only [am_ex] at hst
    split at hst
    · rename_i y x st'
      cases hst
      have kt : am_cc q x y = true → W p l e R s m args below meth c H locs (h.1 - k0) (h.2.1 - n0) Q (F0 m a ls (st'.map (am_rl b0 sz))) := fun hc => kk _ (by show am_pc (if am_cc q x y = true then am_jmp cd a else is) = a; rw [if_pos hc]; exact am_jmp_pc a cd (by simpa [hc] using hne)) H locs ls hP hS hl
      have kf : ¬ am_cc q x y = true → W p l e R s m args below meth c H locs (h.1 - k0) (h.2.1 - n0) Q (F0 m (pc + 3) ls (st'.map (am_rl b0 sz))) := fun hc => kk _ (by show am_pc (if am_cc q x y = true then am_jmp cd a else is) = _; rw [if_neg hc]; exact hnx) H locs ls hP hS hl
      cases q
      · exact lv_icmp_eq hx hb (am_dc_ok hd) ht (fun g => kt (by simpa [am_cc] using g)) (fun g => kf (by simpa [am_cc] using g))
      · exact lv_icmp_ne hx hb (am_dc_ok hd) ht (fun g => kt (by simpa [am_cc] using g)) (fun g => kf (by simpa [am_cc] using g))
      · exact lv_icmp_lt hx hb (am_dc_ok hd) ht (fun g => kt (by simpa [am_cc] using g)) (fun g => kf (by simpa [am_cc] using g))
      · exact lv_icmp_ge hx hb (am_dc_ok hd) ht (fun g => kt (by simpa [am_cc] using g)) (fun g => kf (by simpa [am_cc] using g))
      · exact lv_icmp_gt hx hb (am_dc_ok hd) ht (fun g => kt (by simpa [am_cc] using g)) (fun g => kf (by simpa [am_cc] using g))
      · exact lv_icmp_le hx hb (am_dc_ok hd) ht (fun g => kt (by simpa [am_cc] using g)) (fun g => kf (by simpa [am_cc] using g))
    · cases hst
  case lookupswitch d ps =>
    obtain ⟨⟨⟨hd, ht⟩, hk⟩, hp⟩ := hv
    obtain ⟨len, hd⟩ := am_dx_ok hd
    simp only [am_ex] at hst
    split at hst
    · rename_i x st'
      cases hst
      exact lv_lookup hx hb hd hp rfl (am_lks_ok pc a d ht x ps.toList sw hk) (kk _ (am_jmp_pc _ cd hne) H locs ls hP hS hl)
    · cases hst
  case tableswitch d lo hi offs =>
    obtain ⟨hd, ht⟩ := hv
    obtain ⟨len, hd⟩ := am_dx_ok hd
    simp only [am_tsw, Bool.and_eq_true, decide_eq_true_eq] at ht
    obtain ⟨⟨⟨ht, hhi⟩, hlen⟩, hall⟩ := ht
    have hall' : ∀ i, i < offs.toList.length → ∃ k t w, sw[i]? = some (k, t) ∧ offs.toList[i]? = some w ∧ k.toInt = lo + i ∧ (pc : Int) + w = (t : Int) := by
      intro i hi
      have h1 := List.all_eq_true.mp hall i (List.mem_range.mpr hi)
      split at h1
      · rename_i k t w e1 e2
        simp only [Bool.and_eq_true, decide_eq_true_eq] at h1
        exact ⟨k, t, w, e1, e2, h1.1, h1.2⟩
      · cases h1
    have hkey : ∀ (i : Nat) (q : Int32 × Nat), sw[i]? = some q → q.1.toInt = lo + i := by
      intro i q hq
      have hi : i < offs.toList.length := by rw [← hlen]; exact (List.getElem?_eq_some_iff.mp hq).1
      obtain ⟨k, t, w, e1, e2, e3, e4⟩ := hall' i hi
      rw [hq] at e1
      cases e1
      exact e3
    simp only [am_ex] at hst
    split at hst
    · rename_i x st'
      cases hst
      have kj := kk _ (am_jmp_pc _ cd hne) H locs ls hP hS hl
      by_cases hin : lo ≤ x.toInt ∧ x.toInt < lo + sw.length
      · obtain ⟨q, g1, g2⟩ := am_sw_in a x sw lo hkey hin.1 hin.2
        have hi : (x.toInt - lo).toNat < offs.toList.length := by rw [← hlen]; exact (List.getElem?_eq_some_iff.mp g1).1
        obtain ⟨k, t, w, e1, e2, e3, e4⟩ := hall' _ hi
        rw [g1] at e1
        cases e1
        rw [g2] at kj
        refine lv_tableIn hx hb hd (by omega) (by omega) (off := w) ?_ e4 kj
        rw [← Array.getElem?_toList]
        exact e2
      · have g := am_sw_out a x sw lo hkey (by omega)
        rw [g] at kj
        exact lv_tableOut hx hb hd (by omega) ht kj
    · cases hst
end AMA
