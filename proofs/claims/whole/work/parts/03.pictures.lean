/-! What the abstract machine's places, locals and stacks are on the machine. -/
def am_rl (b sz : Nat) (v : Value) : Value := match v with
  | .ref 0 => .ref b
  | .ref (k + 1) => .ref (sz + k)
  | w => w
def am_cE (dA : FieldType → ClassId) (b sz : Nat) (e : am_E) : va_E := match e with
  | .inl (ty, x) => .inl (dA ty, x)
  | .inr (c, fs) => .inr (c, fs.map (am_rl b sz))
def am_P (D : va_G) (dA : FieldType → ClassId) (b sz : Nat) (h : am_H) (U : State) (H : Heap) : Prop :=
  H.size = sz + h.1 ∧ (∀ (k : Nat) (e : am_E), h.2.2 (k + 1) = some e → va_at D vwCl (sz + k, am_cE dA b sz e) H) ∧ ∀ e : am_E, h.2.2 0 = some e → ∃ (L : Nat) (xs : Nat → Int32), e = .inl (.int, L, .inl xs) ∧ va_X b L xs U H
def am_tys (dA : FieldType → ClassId) : List (ClassId × FieldType) := [(dA .int, .int), (dA .long, .long), (dA .boolean, .boolean)]
def am_K (D : va_G) (dA : FieldType → ClassId) (U : State) : Prop := va_K D vwCl (am_tys dA) U ∧ ∀ w ∈ am_nst, va_Nw w U
def am_lv (nL b sz : Nat) (lv : am_L) (ls : Array Slot) : Prop := ls.size = nL ∧ lv.length = nL ∧ lv_wf ls ∧ ∀ (i : Nat) (v : Value), lv[i]? = some (some v) → ls[i]? = some (.val (am_rl b sz v))
theorem am_rl_cat (b sz : Nat) (v : Value) : (am_rl b sz v).category = v.category := by
  cases v with
  | ref k => cases k <;> rfl
  | _ => rfl
theorem am_rl_int (b sz : Nat) (x : Int32) : am_rl b sz (.int x) = .int x := rfl
theorem am_rl_long (b sz : Nat) (x : Int64) : am_rl b sz (.long x) = .long x := rfl
theorem am_rl_null (b sz : Nat) : am_rl b sz .null = .null := rfl
theorem am_rl_ref (b sz k : Nat) : am_rl b sz (.ref (k + 1)) = .ref (sz + k) := rfl
theorem am_K.moved {D : va_G} {dA : FieldType → ClassId} {s U : State} (hW : s.WarmedH U.vm) (h : am_K D dA s) : am_K D dA U := by
  refine ⟨va_K.moved hW.alike h.1, fun w hw => ?_⟩
  obtain ⟨a, i, x, q, rfl⟩ := am_nst_form w hw
  exact va_Nw.warmM hW (h.2 _ hw)
theorem am_K.same {D : va_G} {dA : FieldType → ClassId} {s U : State} (hv : s.vm = U.vm) (h : am_K D dA s) : am_K D dA U := by
  refine ⟨va_K.moved (by rw [hv]; exact Vm.Alike.refl U.vm) h.1, fun w hw => ?_⟩
  obtain ⟨a, i, x, q, rfl⟩ := am_nst_form w hw
  exact va_Nw.same rfl hv (h.2 _ hw)
theorem am_P.moved {D : va_G} {dA : FieldType → ClassId} {b sz : Nat} {h : am_H} {u U : State} {H : Heap} (hvm : u.vm.Alike U.vm) (hP : am_P D dA b sz h u H) : am_P D dA b sz h U H := by
  refine ⟨hP.1, hP.2.1, fun e he => ?_⟩
  obtain ⟨L, xs, h1, h2⟩ := hP.2.2 e he
  exact ⟨L, xs, h1, h2.moved hvm⟩
/-- one place changes -/
theorem am_P.up {D : va_G} {dA : FieldType → ClassId} {b sz : Nat} {h : am_H} {U : State} {H H1 : Heap} {k : Nat} {e0 e : am_E} (hb : b < sz) (hP : am_P D dA b sz h U H) (h0 : h.2.2 (k + 1) = some e0) (hz : H1.size = H.size) (ho : ∀ q : Nat, q ≠ sz + k → H1[q]? = H[q]?) (he : va_at D vwCl (sz + k, am_cE dA b sz e) H1) : am_P D dA b sz (am_up h (k + 1) e) U H1 := by
  refine ⟨hz.trans hP.1, fun j e' hj => ?_, fun e' hj => ?_⟩
  · simp only [am_up] at hj
    by_cases hjk : j = k
    · subst hjk
      simp at hj
      subst hj
      exact he
    · rw [if_neg (by omega)] at hj
      exact (hP.2.1 j e' hj).kept (ho _ (by show sz + j ≠ sz + k; omega))
  · simp only [am_up] at hj
    rw [if_neg (by omega)] at hj
    obtain ⟨L, xs, h1, h2⟩ := hP.2.2 e' hj
    exact ⟨L, xs, h1, h2.kept (ho b (by omega))⟩
/-- one place more -/
theorem am_P.nw {D : va_G} {dA : FieldType → ClassId} {b sz : Nat} {h : am_H} {U : State} {H H1 : Heap} {n : Nat} {e : am_E} (hb : b < sz) (hP : am_P D dA b sz h U H) (hz : H1.size = H.size + 1) (ho : ∀ q : Nat, q < H.size → H1[q]? = H[q]?) (he : va_at D vwCl (sz + h.1, am_cE dA b sz e) H1) : am_P D dA b sz (am_nw h n e) U H1 := by
  refine ⟨by show H1.size = sz + (h.1 + 1); rw [hz, hP.1]; omega, fun j e' hj => ?_, fun e' hj => ?_⟩
  · simp only [am_nw] at hj
    by_cases hjk : j = h.1
    · subst hjk
      simp at hj
      subst hj
      exact he
    · rw [if_neg (by omega)] at hj
      have h1 := hP.2.1 j e' hj
      exact h1.kept (ho _ h1.lt)
  · simp only [am_nw] at hj
    rw [if_neg (by omega)] at hj
    obtain ⟨L, xs, h1, h2⟩ := hP.2.2 e' hj
    exact ⟨L, xs, h1, h2.kept (ho b (by rw [hP.1]; omega))⟩
theorem am_S.nw {sz : Nat} {H0 H H1 : Heap} {locs : List Loc} (hS : va_S (fun q => sz ≤ q) H0 H locs) (hz : H1.size = H.size + 1) (ho : ∀ q : Nat, q < H.size → H1[q]? = H[q]?) : va_S (fun q => sz ≤ q) H0 H1 locs :=
  ⟨by rw [hz]; exact Nat.le_succ_of_le hS.1, fun q h1 h2 => (ho q (Nat.lt_of_lt_of_le h1 hS.1)).trans (hS.2.1 q h1 h2), hS.2.2⟩
/-- the known locals as pairs -/
def am_prs (b sz : Nat) : Nat → am_L → List (Nat × Value)
  | _, [] => []
  | i, some v :: r => (i, am_rl b sz v) :: am_prs b sz (i + 1) r
  | i, none :: r => am_prs b sz (i + 1) r
theorem am_prs_in (b sz : Nat) : ∀ (lv : am_L) (i : Nat) (q : Nat × Value), q ∈ am_prs b sz i lv ↔ ∃ (j : Nat) (v : Value), lv[j]? = some (some v) ∧ q = (i + j, am_rl b sz v)
  | [], i, q => by simp [am_prs]
  | some v :: r, i, q => by
    rw [am_prs, List.mem_cons, am_prs_in b sz r]
    constructor
    · rintro (rfl | ⟨j, w, h1, rfl⟩)
      · exact ⟨0, v, rfl, rfl⟩
      · exact ⟨j + 1, w, by simpa using h1, by rw [show i + 1 + j = i + (j + 1) by omega]⟩
    · rintro ⟨j, w, h1, rfl⟩
      cases j with
      | zero => simp at h1; subst h1; exact Or.inl rfl
      | succ j => exact Or.inr ⟨j, w, by simpa using h1, by rw [show i + 1 + j = i + (j + 1) by omega]⟩
  | none :: r, i, q => by
    rw [am_prs, am_prs_in b sz r]
    constructor
    · rintro ⟨j, w, h1, rfl⟩
      exact ⟨j + 1, w, by simpa using h1, by rw [show i + 1 + j = i + (j + 1) by omega]⟩
    · rintro ⟨j, w, h1, rfl⟩
      cases j with
      | zero => simp at h1
      | succ j => exact ⟨j, w, by simpa using h1, by rw [show i + 1 + j = i + (j + 1) by omega]⟩
theorem am_lv.has {nL b sz : Nat} {lv : am_L} {ls : Array Slot} (h : am_lv nL b sz lv ls) : lv_has ls nL (am_prs b sz 0 lv) := by
  refine ⟨h.1, h.2.2.1, fun q hq => ?_⟩
  obtain ⟨j, v, h1, rfl⟩ := (am_prs_in b sz lv 0 q).mp hq
  rw [Nat.zero_add]
  exact h.2.2.2 j v h1
theorem am_st1_spec : ∀ (lv : am_L) (i : Nat) (v : Value) (lv' : am_L), am_st1 lv i v = some lv' → i < lv.length ∧ lv'.length = lv.length ∧ (∀ j : Nat, lv'[j]? = if j = i then some (some v) else lv[j]?) ∧ ∀ (j : Nat) (w : Value), j + 1 = i → lv[j]? = some (some w) → w.category ≠ 2
  | [], i, v, lv', h => by cases i <;> simp [am_st1] at h
  | x :: r, 0, v, lv', h => by
    simp only [am_st1, Option.some.injEq] at h
    subst h
    refine ⟨by simp, by simp, fun j => ?_, fun j w h => by omega⟩
    cases j <;> simp
  | x :: r, 1, v, lv', h => by
    simp only [am_st1] at h
    split at h
    · cases h
    · rename_i hx
      cases hr : am_st1 r 0 v with
      | none => rw [hr] at h; cases h
      | some r' =>
        rw [hr] at h
        simp only [Option.map_some, Option.some.injEq] at h
        subst h
        obtain ⟨h1, h2, h3, h4⟩ := am_st1_spec r 0 v r' hr
        refine ⟨by simp; omega, by simp [h2], fun j => ?_, fun j w hj hw => ?_⟩
        · cases j with
          | zero => simp
          | succ j =>
            simp only [List.getElem?_cons_succ, h3 j]
            by_cases hj : j = 0 <;> simp [hj]
        · have : j = 0 := by omega
          subst this
          simp at hw
          subst hw
          simpa [am_two] using hx
  | x :: r, i + 2, v, lv', h => by
    simp only [am_st1] at h
    cases hr : am_st1 r (i + 1) v with
    | none => rw [hr] at h; cases h
    | some r' =>
      rw [hr] at h
      simp only [Option.map_some, Option.some.injEq] at h
      subst h
      obtain ⟨h1, h2, h3, h4⟩ := am_st1_spec r (i + 1) v r' hr
      refine ⟨by simp; omega, by simp [h2], fun j => ?_, fun j w hj hw => ?_⟩
      · cases j with
        | zero => simp
        | succ j =>
          simp only [List.getElem?_cons_succ, h3 j]
          by_cases hj : j = i + 1 <;> simp [hj]
      · cases j with
        | zero => omega
        | succ j => exact h4 j w (by omega) (by simpa using hw)
theorem am_st2_spec : ∀ (lv : am_L) (i : Nat) (v : Value) (lv' : am_L), am_st2 lv i v = some lv' → i + 1 < lv.length ∧ lv'.length = lv.length ∧ (∀ j : Nat, lv'[j]? = if j = i then some (some v) else if j = i + 1 then some none else lv[j]?) ∧ ∀ (j : Nat) (w : Value), j + 1 = i → lv[j]? = some (some w) → w.category ≠ 2
  | [], i, v, lv', h => by cases i <;> simp [am_st2] at h
  | [x], i, v, lv', h => by cases i <;> simp [am_st2] at h
  | x :: y :: r, 0, v, lv', h => by
    simp only [am_st2, Option.some.injEq] at h
    subst h
    refine ⟨by simp, by simp, fun j => ?_, fun j w h => by omega⟩
    rcases j with _ | _ | j <;> simp
  | x :: y :: r, 1, v, lv', h => by
    simp only [am_st2] at h
    split at h
    · cases h
    · rename_i hx
      cases hr : am_st2 (y :: r) 0 v with
      | none => rw [hr] at h; cases h
      | some r' =>
        rw [hr] at h
        simp only [Option.map_some, Option.some.injEq] at h
        subst h
        obtain ⟨h1, h2, h3, h4⟩ := am_st2_spec (y :: r) 0 v r' hr
        refine ⟨by simp at h1 ⊢; omega, by simp [h2], fun j => ?_, fun j w hj hw => ?_⟩
        · cases j with
          | zero => simp
          | succ j =>
            simp only [List.getElem?_cons_succ, h3 j]
            rcases j with _ | _ | j <;> simp
        · have : j = 0 := by omega
          subst this
          simp at hw
          subst hw
          simpa [am_two] using hx
  | x :: y :: r, i + 2, v, lv', h => by
    simp only [am_st2] at h
    cases hr : am_st2 (y :: r) (i + 1) v with
    | none => rw [hr] at h; cases h
    | some r' =>
      rw [hr] at h
      simp only [Option.map_some, Option.some.injEq] at h
      subst h
      obtain ⟨h1, h2, h3, h4⟩ := am_st2_spec (y :: r) (i + 1) v r' hr
      refine ⟨by simp at h1 ⊢; omega, by simp [h2], fun j => ?_, fun j w hj hw => ?_⟩
      · cases j with
        | zero => simp
        | succ j =>
          simp only [List.getElem?_cons_succ, h3 j]
          by_cases hj : j = i + 1
          · simp [hj]
          · by_cases hj2 : j = i + 2 <;> simp [hj, hj2]
      · cases j with
        | zero => omega
        | succ j => exact h4 j w (by omega) (by simpa using hw)
theorem am_lv.st1 {nL b sz i : Nat} {lv lv' : am_L} {ls ls' : Array Slot} {v : Value} (h : am_lv nL b sz lv ls) (hs : am_st1 lv i v = some lv') (h' : lv_has ls' nL ((i, am_rl b sz v) :: (am_prs b sz 0 lv).filter (fun q => !(q.1 == i) && !(q.1 + 1 == i && q.2.category == 2)))) : am_lv nL b sz lv' ls' := by
  obtain ⟨h1, h2, h3, h4⟩ := am_st1_spec lv i v lv' hs
  refine ⟨h'.1, h2.trans h.2.1, h'.2.1, fun j w hj => ?_⟩
  rw [h3 j] at hj
  by_cases hji : j = i
  · subst hji
    simp at hj
    subst hj
    exact h'.2.2 (j, am_rl b sz v) List.mem_cons_self
  · rw [if_neg hji] at hj
    refine h'.2.2 (j, am_rl b sz w) (List.mem_cons_of_mem _ (List.mem_filter.mpr ⟨(am_prs_in b sz lv 0 _).mpr ⟨j, w, hj, by simp⟩, ?_⟩))
    simp only [Bool.and_eq_true, Bool.not_eq_true', beq_eq_false_iff_ne, ne_eq, hji, not_false_eq_true, true_and, Bool.and_eq_false_imp, beq_iff_eq, am_rl_cat]
    intro e
    exact h4 j w e hj
theorem am_lv.st2 {nL b sz i : Nat} {lv lv' : am_L} {ls ls' : Array Slot} {v : Value} (h : am_lv nL b sz lv ls) (hs : am_st2 lv i v = some lv') (h' : lv_has ls' nL ((i, am_rl b sz v) :: (am_prs b sz 0 lv).filter (fun q => !(q.1 == i) && (!(q.1 == i + 1) && !(q.1 + 1 == i && q.2.category == 2))))) : am_lv nL b sz lv' ls' := by
  obtain ⟨h1, h2, h3, h4⟩ := am_st2_spec lv i v lv' hs
  refine ⟨h'.1, h2.trans h.2.1, h'.2.1, fun j w hj => ?_⟩
  rw [h3 j] at hj
  by_cases hji : j = i
  · subst hji
    simp at hj
    subst hj
    exact h'.2.2 (j, am_rl b sz v) List.mem_cons_self
  · rw [if_neg hji] at hj
    by_cases hj2 : j = i + 1
    · rw [if_pos hj2] at hj; cases hj
    · rw [if_neg hj2] at hj
      refine h'.2.2 (j, am_rl b sz w) (List.mem_cons_of_mem _ (List.mem_filter.mpr ⟨(am_prs_in b sz lv 0 _).mpr ⟨j, w, hj, by simp⟩, ?_⟩))
      simp only [Bool.and_eq_true, Bool.not_eq_true', beq_eq_false_iff_ne, ne_eq, hji, hj2, not_false_eq_true, true_and, Bool.and_eq_false_imp, beq_iff_eq, am_rl_cat]
      intro e
      exact h4 j w e hj
theorem am_ld_spec {lv : am_L} {i : Nat} {v : Value} (h : am_ld lv i = some v) : lv[i]? = some (some v) := by
  unfold am_ld at h
  split at h
  · rename_i w hw; cases h; exact hw
  · cases h
theorem am_lv.at {nL b sz i : Nat} {lv : am_L} {ls : Array Slot} {v : Value} (h : am_lv nL b sz lv ls) (hl : am_ld lv i = some v) : ls[i]? = some (.val (am_rl b sz v)) := h.2.2.2 i v (am_ld_spec hl)
theorem am_lv.pair {nL b sz i : Nat} {lv : am_L} {ls : Array Slot} {v : Value} (_ : am_lv nL b sz lv ls) (hl : am_ld lv i = some v) : ∃ k : Nat, (am_prs b sz 0 lv)[k]? = some (i, am_rl b sz v) :=
  List.getElem?_of_mem ((am_prs_in b sz lv 0 _).mpr ⟨i, v, am_ld_spec hl, by simp⟩)
/-- entry -/
theorem am_sl_cons (v : Value) (r : List Value) : lg_sl (v :: r) = (if v.category = 2 then [.val v, .second] else [.val v]) ++ lg_sl r := by simp [lg_sl]
theorem am_ar_len : ∀ As : List Value, (am_ar As).length = (lg_sl As).length
  | [] => rfl
  | .long x :: r => by rw [am_sl_cons]; simp [am_ar, Value.category, am_ar_len r]
  | .double x :: r => by rw [am_sl_cons]; simp [am_ar, Value.category, am_ar_len r]
  | .int x :: r => by rw [am_sl_cons]; simp [am_ar, Value.category, am_ar_len r]
  | .float x :: r => by rw [am_sl_cons]; simp [am_ar, Value.category, am_ar_len r]
  | .null :: r => by rw [am_sl_cons]; simp [am_ar, Value.category, am_ar_len r]
  | .ref x :: r => by rw [am_sl_cons]; simp [am_ar, Value.category, am_ar_len r]
  | .retAddr x :: r => by rw [am_sl_cons]; simp [am_ar, Value.category, am_ar_len r]
theorem am_sl_len (b sz : Nat) (As : List Value) : (lg_sl (As.map (am_rl b sz))).length = (lg_sl As).length := by
  induction As with
  | nil => rfl
  | cons v r ih =>
    rw [List.map_cons, am_sl_cons, am_sl_cons, List.length_append, List.length_append, ih, am_rl_cat]
    by_cases h : v.category = 2 <;> simp [h]
theorem am_ar_at (b sz : Nat) : ∀ (As : List Value) (i j : Nat) (v : Value), (am_ar As)[j]? = some (some v) → (i + j, am_rl b sz v) ∈ lv_args i (As.map (am_rl b sz)) := by
  intro As
  induction As with
  | nil => intro i j v h; simp [am_ar] at h
  | cons x r ih =>
    intro i j v h
    have two : x.category = 2 → am_ar (x :: r) = some x :: none :: am_ar r := by cases x <;> simp [Value.category, am_ar]
    have one : ¬ x.category = 2 → am_ar (x :: r) = some x :: am_ar r := by cases x <;> simp [Value.category, am_ar]
    simp only [List.map_cons, lv_args, am_rl_cat, List.mem_cons]
    by_cases hc : x.category = 2
    · rw [two hc] at h
      rw [if_pos hc]
      rcases j with _ | _ | j
      · simp at h; subst h; exact Or.inl rfl
      · simp at h
      · refine Or.inr ?_
        have h2 := ih (i + 2) j v (by simpa using h)
        rwa [show i + 2 + j = i + (j + 1 + 1) by omega] at h2
    · rw [one hc] at h
      rw [if_neg hc]
      rcases j with _ | j
      · simp at h; subst h; exact Or.inl rfl
      · refine Or.inr ?_
        have h2 := ih (i + 1) j v (by simpa using h)
        rwa [show i + 1 + j = i + (j + 1) by omega] at h2
theorem am_lv.entry (nL b sz : Nat) (As : List Value) (h : (am_ar As).length ≤ nL) : am_lv nL b sz (am_en nL As) ((lg_sl (As.map (am_rl b sz)) ++ List.replicate (nL - (lg_sl (As.map (am_rl b sz))).length) Slot.unset).toArray) := by
  have e := am_ar_len As
  have e2 := am_sl_len b sz As
  have hh := lv_entry (As.map (am_rl b sz)) (n := nL) (by omega)
  refine ⟨hh.1, by simp [am_en]; omega, hh.2.1, fun i v hi => ?_⟩
  unfold am_en at hi
  by_cases hl : i < (am_ar As).length
  · rw [List.getElem?_append_left hl] at hi
    have h2 := am_ar_at b sz As 0 i v hi
    rw [Nat.zero_add] at h2
    exact hh.2.2 _ h2
  · rw [List.getElem?_append_right (by omega), List.getElem?_replicate] at hi
    split at hi <;> simp at hi
theorem am_cat_sum (b sz : Nat) (st : List Value) : ((st.map (am_rl b sz)).map fun v => v.category).sum = am_cat st := by
  induction st with
  | nil => rfl
  | cons v r ih => simp only [List.map_cons, List.sum_cons, am_cat, am_rl_cat] at ih ⊢; rw [ih]
theorem am_pop_spec : ∀ (n : Nat) (acc st As rest : List Value), am_pop n acc st = some (As, rest) → ∃ bs : List Value, bs.length = n ∧ As = bs ++ acc ∧ st = bs.reverse ++ rest
  | 0, acc, st, As, rest, h => by
    simp only [am_pop, Option.some.injEq, Prod.mk.injEq] at h
    obtain ⟨rfl, rfl⟩ := h
    exact ⟨[], rfl, rfl, rfl⟩
  | n + 1, acc, [], As, rest, h => by simp [am_pop] at h
  | n + 1, acc, v :: st, As, rest, h => by
    simp only [am_pop] at h
    obtain ⟨bs, h1, h2, h3⟩ := am_pop_spec n (v :: acc) st As rest h
    refine ⟨bs ++ [v], by simp [h1], by simp [h2], by simp [h3]⟩
theorem am_sw_in (d : Nat) (x : Int32) : ∀ (sw : List (Int32 × Nat)) (lo : Int), (∀ (i : Nat) (q : Int32 × Nat), sw[i]? = some q → q.1.toInt = lo + i) → lo ≤ x.toInt → x.toInt < lo + sw.length → ∃ q : Int32 × Nat, sw[(x.toInt - lo).toNat]? = some q ∧ am_sw sw d x = q.2
  | [], lo, _, h1, h2 => by simp at h2; omega
  | (k, t) :: r, lo, hk, h1, h2 => by
    have h0 := hk 0 (k, t) rfl
    simp at h0
    by_cases hx : x = k
    · refine ⟨(k, t), ?_, by simp [am_sw, hx]⟩
      rw [hx, h0]; simp
    · have hne : x.toInt ≠ lo := fun e => hx (Int32.toInt_inj.mp (by rw [e, h0]))
      obtain ⟨q, g1, g2⟩ := am_sw_in d x r (lo + 1) (fun i q hq => by
        have := hk (i + 1) q (by simpa using hq)
        rw [this]; simp; omega) (by omega) (by simp at h2; omega)
      refine ⟨q, ?_, by simp only [am_sw, if_neg hx]; exact g2⟩
      rw [show (x.toInt - lo).toNat = (x.toInt - (lo + 1)).toNat + 1 by omega, List.getElem?_cons_succ]
      exact g1
theorem am_sw_out (d : Nat) (x : Int32) : ∀ (sw : List (Int32 × Nat)) (lo : Int), (∀ (i : Nat) (q : Int32 × Nat), sw[i]? = some q → q.1.toInt = lo + i) → (x.toInt < lo ∨ lo + sw.length ≤ x.toInt) → am_sw sw d x = d
  | [], lo, _, _ => rfl
  | (k, t) :: r, lo, hk, h => by
    have h0 := hk 0 (k, t) rfl
    simp at h0
    have hx : ¬ x = k := fun e => by rw [e] at h; simp at h; omega
    simp only [am_sw, if_neg hx]
    refine am_sw_out d x r (lo + 1) (fun i q hq => by
        have := hk (i + 1) q (by simpa using hq)
        rw [this]; simp; omega) ?_
    simp at h
    omega
/-- a lookupswitch's pairs beside the table's -/
def am_lks (pc : Nat) : List (Int × Int) → List (Int32 × Nat) → Bool
  | [], [] => true
  | (m, o) :: ps, (k, t) :: sw => decide (k.toInt = m) && decide ((pc : Int) + o = (t : Int)) && am_lks pc ps sw
  | _, _ => false
theorem am_lks_ok (pc a : Nat) (d : Int) (hd : (pc : Int) + d = (a : Int)) (x : Int32) : ∀ (ps : List (Int × Int)) (sw : List (Int32 × Nat)), am_lks pc ps sw = true → (pc : Int) + Op.lookupswitch.offset ps d x.toInt = (am_sw sw a x : Int)
  | [], [], _ => by rw [Op.lookupswitch.offset_nil]; exact hd
  | [], _ :: _, h => by cases h
  | _ :: _, [], h => by cases h
  | (m, o) :: ps, (k, t) :: sw, h => by
    simp only [am_lks, Bool.and_eq_true, decide_eq_true_eq] at h
    rw [Op.lookupswitch.offset_cons, am_sw]
    by_cases hx : x = k
    · rw [if_pos (by rw [hx]; exact h.1.1.symm), if_pos hx]; exact h.1.2
    · rw [if_neg (fun e => hx (Int32.toInt_inj.mp (by rw [h.1.1]; exact e.symm))), if_neg hx]
      exact am_lks_ok pc a d hd x ps sw h.2
theorem am_jmp_pc (t : Nat) : ∀ cd : List am_I, am_jmp cd t ≠ [] → am_pc (am_jmp cd t) = t
  | [], h => absurd rfl h
  | e :: r, h => by
    unfold am_jmp at h ⊢
    by_cases he : e.1 = t
    · rw [if_pos he]; exact he
    · rw [if_neg he] at h ⊢; exact am_jmp_pc t r h
