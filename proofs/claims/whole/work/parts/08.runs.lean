/-! A whole run; each method's contract; the law's walk out of one equation about the abstract machine. -/
section AMR
variable {f : am_F} {cd : List am_I} {pc a b : Nat} {ins : Instr} {v : Value} {sw : List (Int32 × Nat)} {is : List am_I} {lv : am_L} {st : List Value} {h h' : am_H} {σ : am_S}
def am_le (h h' : am_H) : Prop := h.1 ≤ h'.1 ∧ h.2.1 ≤ h'.2.1
theorem am_le.rf : am_le h h := ⟨Nat.le_refl _, Nat.le_refl _⟩
theorem am_pf_le {r c k : Nat} {w : Value} (e : am_pf h r c k w = some h') : am_le h h' := by
  unfold am_pf at e
  split at e
  · split at e
    · cases e; exact am_le.rf
    · cases e
  · cases e
theorem am_pi_le {r : Nat} {i x : Int32} (e : am_pi h r i x = some h') : am_le h h' := by
  unfold am_pi at e
  split at e
  · split at e
    · cases e
    · cases e; exact am_le.rf
  · cases e
theorem am_pz_le {r : Nat} {i x : Int32} (e : am_pz h r i x = some h') : am_le h h' := by
  unfold am_pz at e
  split at e
  · split at e
    · cases e
    · cases e; exact am_le.rf
  · cases e
theorem am_pl_le {r : Nat} {i : Int32} {x : Int64} (e : am_pl h r i x = some h') : am_le h h' := by
  unfold am_pl at e
  split at e
  · split at e
    · cases e
    · cases e; exact am_le.rf
  · cases e
theorem am_cy_le {r : Nat} {sp dp n : Int32} (e : am_cy h r sp dp n = some h') : am_le h h' := by
  unfold am_cy at e
  split at e
  · split at e
    · cases e
    · cases e; exact am_le.rf
  · cases e
theorem am_c2_shape {g : Value → Value → Option Value} (e : am_c2 is lv h g st = some (.inl σ)) : σ.1 = is ∧ σ.2.2.2 = h := by
  unfold am_c2 at e
  split at e
  · split at e
    · cases e; exact ⟨rfl, rfl⟩
    · cases e
  · cases e
def am_okF (f : am_F) : Prop := ∀ (j : Nat) (As : List Value) (h : am_H) (r : Option Value) (h' : am_H), f j As h = some (r, h') → am_le h h'
set_option maxHeartbeats 4000000 in
theorem am_shape (hf : am_okF f) (hst : am_ex f cd ins a b v sw is lv st h = some (.inl σ)) : (σ.1 = is ∨ ∃ t, σ.1 = am_jmp cd t) ∧ am_le h σ.2.2.2 := by
  cases ins
  case putfield i =>
    simp only [am_ex] at hst
    split at hst
    · split at hst
      · split at hst
        · rename_i e; cases hst; exact ⟨Or.inl rfl, am_pf_le e⟩
        · cases hst
      · cases hst
    · cases hst
  case iastore =>
    simp only [am_ex] at hst
    split at hst
    · split at hst
      · rename_i e; cases hst; exact ⟨Or.inl rfl, am_pi_le e⟩
      · cases hst
    · cases hst
  case bastore =>
    simp only [am_ex] at hst
    split at hst
    · split at hst
      · rename_i e; cases hst; exact ⟨Or.inl rfl, am_pz_le e⟩
      · cases hst
    · cases hst
  case lastore =>
    simp only [am_ex] at hst
    split at hst
    · split at hst
      · rename_i e; cases hst; exact ⟨Or.inl rfl, am_pl_le e⟩
      · cases hst
    · cases hst
  case newarray t =>
    simp only [am_ex] at hst
    split at hst
    · split at hst
      · cases hst
      · split at hst
        · cases hst; exact ⟨Or.inl rfl, Nat.le_succ _, Nat.le_add_right _ _⟩
        · cases hst; exact ⟨Or.inl rfl, Nat.le_succ _, Nat.le_add_right _ _⟩
        · cases hst; exact ⟨Or.inl rfl, Nat.le_succ _, Nat.le_add_right _ _⟩
        · cases hst
    · cases hst
  case new i =>
    cases hst
    exact ⟨Or.inl rfl, Nat.le_succ _, Nat.le_add_right _ _⟩
  case invokevirtual i =>
    simp only [am_ex] at hst
    split at hst
    · split at hst
      · split at hst
        · obtain ⟨r, h', e1, -, e2⟩ := am_k_spec hst
          subst e2
          exact ⟨Or.inl rfl, hf _ _ _ _ _ e1⟩
        · cases hst
      · cases hst
    · cases hst
  case invokespecial i =>
    simp only [am_ex] at hst
    split at hst
    · split at hst
      · split at hst
        · cases hst; exact ⟨Or.inl rfl, am_le.rf⟩
        · cases hst
      · cases hst
    · split at hst
      · obtain ⟨r, h', e1, -, e2⟩ := am_k_spec hst
        subst e2
        exact ⟨Or.inl rfl, hf _ _ _ _ _ e1⟩
      · cases hst
  case invokestatic i =>
    simp only [am_ex] at hst
    split at hst
    · split at hst
      · split at hst
        · cases hst; exact ⟨Or.inl rfl, am_le.rf⟩
        · cases hst
      · cases hst
    · split at hst
      · split at hst
        · split at hst
          · rename_i e; cases hst; exact ⟨Or.inl rfl, am_cy_le e⟩
          · cases hst
        · cases hst
      · cases hst
    · split at hst
      · obtain ⟨r, h', e1, -, e2⟩ := am_k_spec hst
        subst e2
        exact ⟨Or.inl rfl, hf _ _ _ _ _ e1⟩
      · cases hst
  case ifCond q off =>
    simp only [am_ex] at hst
    split at hst
    · rename_i x st'
      cases hst
      refine ⟨?_, am_le.rf⟩
      by_cases hc : am_cc q x 0 = true
      · exact Or.inr ⟨a, if_pos hc⟩
      · exact Or.inl (if_neg hc)
    · cases hst
  case if_icmp q off =>
    simp only [am_ex] at hst
    split at hst
    · rename_i y x st'
      cases hst
      refine ⟨?_, am_le.rf⟩
      by_cases hc : am_cc q x y = true
      · exact Or.inr ⟨a, if_pos hc⟩
      · exact Or.inl (if_neg hc)
    · cases hst
  all_goals first
    | (cases hst; done)
    | (cases hst; exact ⟨Or.inl rfl, am_le.rf⟩)
    | (cases hst; exact ⟨Or.inr ⟨_, rfl⟩, am_le.rf⟩)
    | (have e := am_c2_shape hst; exact ⟨Or.inl e.1, by rw [e.2]; exact am_le.rf⟩)
    | (simp only [am_ex] at hst
       split at hst <;> first
         | (cases hst; done)
         | (cases hst; exact ⟨Or.inl rfl, am_le.rf⟩)
         | (cases hst; exact ⟨Or.inr ⟨_, rfl⟩, am_le.rf⟩)
         | (obtain ⟨lv', h1, h2⟩ := Option.map_eq_some_iff.mp hst; cases h2; exact ⟨Or.inl rfl, am_le.rf⟩)
         | (split at hst <;> first
             | (cases hst; done)
             | (cases hst; exact ⟨Or.inl rfl, am_le.rf⟩)))
theorem am_ends {r : am_R} (hst : am_ex f cd ins a b v sw is lv st h = some (.inr r)) :
    (∃ x, ins = .ireturn ∧ st = [.int x] ∧ (a = 0 ∨ x = 0 ∨ x = 1) ∧ r = (some (.int x), h)) ∨ (∃ x, ins = .lreturn ∧ st = [.long x] ∧ r = (some (.long x), h)) ∨ (ins = .return_ ∧ st = [] ∧ r = (none, h)) := by
  cases ins
  case ireturn =>
    simp only [am_ex] at hst
    split at hst
    · split at hst
      · rename_i hx; cases hst; exact Or.inl ⟨_, rfl, rfl, hx, rfl⟩
      · cases hst
    · cases hst
  case lreturn =>
    simp only [am_ex] at hst
    split at hst
    · cases hst; exact Or.inr (Or.inl ⟨_, rfl, rfl, rfl⟩)
    · cases hst
  case return_ =>
    simp only [am_ex] at hst
    split at hst
    · cases hst; exact Or.inr (Or.inr ⟨rfl, rfl, rfl⟩)
    · cases hst
  all_goals first
    | (cases hst; done)
    | (exfalso
       simp only [am_ex, am_c2, am_k] at hst
       repeat' split at hst
       all_goals first
         | (cases hst; done)
         | (obtain ⟨lv', h1, h2⟩ := Option.map_eq_some_iff.mp hst; cases h2; done))
theorem am_run_le (hf : am_okF f) : ∀ (n : Nat) (σ : am_S) (r : Option Value) (h' : am_H), am_run f cd n σ = some (r, h') → am_le σ.2.2.2 h'
  | 0, _, _, _, e => by simp [am_run] at e
  | n + 1, σ, r, h', e => by
    unfold am_run at e
    obtain ⟨is0, lv, st, h⟩ := σ
    cases is0 with
    | nil => cases e
    | cons i is =>
      obtain ⟨pc, ins, a, b, v, sw⟩ := i
      cases hs : am_step f cd ((pc, ins, a, b, v, sw) :: is, lv, st, h) with
      | none => rw [hs] at e; cases e
      | some o =>
        rw [hs] at e
        cases o with
        | inl s' =>
          have h1 := (am_shape hf hs).2
          have h2 := am_run_le hf n s' r h' e
          exact ⟨Nat.le_trans h1.1 h2.1, Nat.le_trans h1.2 h2.2⟩
        | inr r' =>
          cases e
          rcases am_ends hs with ⟨x, -, -, -, hr⟩ | ⟨x, -, -, hr⟩ | ⟨-, -, hr⟩ <;> cases hr <;> exact am_le.rf
end AMR
section AMS
variable {p : Program} {l : Launch} {e : Env} {R : Room} {s : State} {m : MethodId} {args : Array Value} {below : List Frame} {meth : Method} {c : Code} {Q : State → Prop} {D : va_G} {dA : FieldType → ClassId} {b0 sz nL k0 n0 o d : Nat} {cc : ByteArray} {rt : Option FieldType} {ini : Bool} {ms : List am_Q} {f : am_F} {cd : List am_I} {h' : am_H} {r : Option Value}
theorem am_all (hms : ∀ (j : Nat) (q : am_Q), ms[j]? = some q → am_gd j q) (hM : am_M l D dA b0 sz ms d f) (hRf : d + 1 ≤ R.frames) (hRl : 64 * (d + 1) ≤ R.locals) (hbs : b0 < sz) (C : am_C D dA o cc nL rt ini p s m args meth c) {pc a b : Nat} {ins : Instr} {v : Value} {sw : List (Int32 × Nat)} {is : List am_I} {lv : am_L} {st : List Value} {h : am_H} {σ : am_S} (hst : am_ex f cd ins a b v sw is lv st h = some (.inl σ)) (hv : am_vi o ini rt cc (pc, ins, a, b, v, sw) (am_pc is) = true) (hne : σ.1 ≠ []) (hk0 : k0 ≤ h.1) (hn0 : n0 ≤ h.2.1) (hR : σ.2.2.2.1 - k0 ≤ R.cells ∧ σ.2.2.2.2.1 - n0 ≤ R.slots) (kk : am_G p l e R s m args below meth c Q D dA b0 sz nL k0 n0 σ) : am_G p l e R s m args below meth c Q D dA b0 sz nL k0 n0 ((pc, ins, a, b, v, sw) :: is, lv, st, h) := by
  by_cases h1 : am_pl1 ins = true
  · exact am_one1 C h1 hst hv kk
  by_cases h2 : am_pl2 ins = true
  · exact am_one2 C h2 hst hv kk
  by_cases h3 : am_pl3 ins = true
  · exact am_one3 C h3 hst hv hne kk
  by_cases h4 : am_pl4 ins = true
  · exact am_one4 hbs C h4 hst hv hk0 hn0 hR kk
  by_cases h5 : am_pl5 ins = true
  · exact am_one5 hms hM hRf hRl hbs C h5 hst hv hk0 hn0 hR kk
  exfalso
  cases ins <;> first
    | exact h1 rfl
    | exact h2 rfl
    | exact h3 rfl
    | exact h4 rfl
    | exact h5 rfl
    | (cases hst; done)
    | (simp only [am_ex] at hst
       repeat' split at hst
       all_goals (cases hst; done))
theorem am_runs (hms : ∀ (j : Nat) (q : am_Q), ms[j]? = some q → am_gd j q) (hM : am_M l D dA b0 sz ms d f) (hRf : d + 1 ≤ R.frames) (hRl : 64 * (d + 1) ≤ R.locals) (hbs : b0 < sz) (C : am_C D dA o cc nL rt ini p s m args meth c) (hcd : am_vl o ini rt cc cd = true) (hR : h'.1 - k0 ≤ R.cells ∧ h'.2.1 - n0 ≤ R.slots)
    (hI : ∀ x, r = some (.int x) → (rt = some .int ∨ (rt = some .boolean ∧ (x = 0 ∨ x = 1))) → ∀ (pc : Nat) (ls : Array Slot) (H : Heap) (locs : List Loc), decode cc pc = .ok (.ireturn, 1) → am_P D dA b0 sz h' s H → va_S (fun q => sz ≤ q) s.heap H locs → W p l e R s m args below meth c H locs (h'.1 - k0) (h'.2.1 - n0) Q (F0 m pc ls [.int x]))
    (hL : ∀ x, r = some (.long x) → rt = some .long → ∀ (pc : Nat) (ls : Array Slot) (H : Heap) (locs : List Loc), decode cc pc = .ok (.lreturn, 1) → am_P D dA b0 sz h' s H → va_S (fun q => sz ≤ q) s.heap H locs → W p l e R s m args below meth c H locs (h'.1 - k0) (h'.2.1 - n0) Q (F0 m pc ls [.long x]))
    (hV : r = none → rt = none → ∀ (pc : Nat) (ls : Array Slot) (H : Heap) (locs : List Loc), decode cc pc = .ok (.return_, 1) → am_P D dA b0 sz h' s H → va_S (fun q => sz ≤ q) s.heap H locs → W p l e R s m args below meth c H locs (h'.1 - k0) (h'.2.1 - n0) Q (F0 m pc ls [])) :
    ∀ (n : Nat) (σ : am_S), am_run f cd n σ = some (r, h') → am_vl o ini rt cc σ.1 = true → k0 ≤ σ.2.2.2.1 → n0 ≤ σ.2.2.2.2.1 → am_G p l e R s m args below meth c Q D dA b0 sz nL k0 n0 σ := by
  have hf : am_okF f := fun j As h r h' e => ⟨(hM j As h r h' e).1, (hM j As h r h' e).2.1⟩
  intro n
  induction n with
  | zero => intro σ hrun; simp [am_run] at hrun
  | succ n ih =>
    intro σ hrun hvl hk hn
    unfold am_run at hrun
    obtain ⟨is0, lv, st, h⟩ := σ
    cases is0 with
    | nil => cases hrun
    | cons i is =>
      obtain ⟨pc, ins, a, b, v, sw⟩ := i
      simp only [am_vl, Bool.and_eq_true] at hvl
      cases hs : am_step f cd ((pc, ins, a, b, v, sw) :: is, lv, st, h) with
      | none => rw [hs] at hrun; cases hrun
      | some oo =>
        rw [hs] at hrun
        cases oo with
        | inl s' =>
          dsimp only at hrun
          have hle := am_run_le hf n s' r h' hrun
          have hsh := am_shape hf hs
          have hne : s'.1 ≠ [] := by
            intro hnil
            obtain ⟨x1, x2, x3, x4⟩ := s'
            dsimp only at hnil
            subst hnil
            cases n <;> simp [am_run, am_step] at hrun
          have hvl' : am_vl o ini rt cc s'.1 = true := by
            rcases hsh.1 with h1 | ⟨t, h1⟩
            · rw [h1]; exact hvl.2
            · rw [h1]; exact am_vl_jmp t cd hcd
          refine am_all hms hM hRf hRl hbs C hs hvl.1 hne hk hn ?_ (ih s' hrun hvl' (Nat.le_trans hk hsh.2.1) (Nat.le_trans hn hsh.2.2))
          have := hle.1
          have := hle.2
          omega
        | inr r' =>
          cases hrun
          intro pc' hpc H locs ls hP hS hl
          obtain rfl : pc = pc' := hpc
          have hv := hvl.1
          rcases am_ends hs with ⟨x, rfl, rfl, hx, hr⟩ | ⟨x, rfl, rfl, hr⟩ | ⟨rfl, rfl, hr⟩
          · cases hr
            simp only [am_vi, Bool.and_eq_true, Bool.or_eq_true, decide_eq_true_eq] at hv
            refine hI x rfl ?_ pc ls H locs (am_dc_ok hv.1) hP hS
            rcases hv.2 with h1 | h1
            · exact Or.inl h1.1
            · refine Or.inr ⟨h1.1, ?_⟩
              rcases hx with h2 | h2
              · omega
              · exact h2
          · cases hr
            simp only [am_vi, Bool.and_eq_true, decide_eq_true_eq] at hv
            exact hL x rfl hv.2 pc ls H locs (am_dc_ok hv.1) hP hS
          · cases hr
            simp only [am_vi, Bool.and_eq_true, decide_eq_true_eq] at hv
            exact hV rfl hv.2 pc ls H locs (am_dc_ok hv.1) hP hS
end AMS
/-- every method's contract: what the abstract machine computes, the machine does -/
theorem am_ev_M (l : Launch) (D : va_G) (dA : FieldType → ClassId) (b0 sz : Nat) (hbs : b0 < sz) (ms : List am_Q) (hms : ∀ (j : Nat) (q : am_Q), ms[j]? = some q → am_gd j q) : ∀ d : Nat, am_M l D dA b0 sz ms d (am_ev ms d)
  | 0 => fun j As h r h' e => by cases e
  | d + 1 => by
    intro j As h r h' hev
    have ih := am_ev_M l D dA b0 sz hbs ms hms d
    have hf : am_okF (am_ev ms d) := fun j As h r h' e => ⟨(ih j As h r h' e).1, (ih j As h r h' e).2.1⟩
    unfold am_ev at hev
    cases hq : ms[j]? with
    | none => rw [hq] at hev; cases hev
    | some q =>
      rw [hq] at hev
      have hg := hms j q hq
      obtain ⟨o, y, cc, n, rt, ini, cd⟩ := q
      dsimp only at hev
      split at hev
      · rename_i hlen
        obtain ⟨nn, hrun⟩ := am_X_iff.mp hev
        obtain ⟨g1, g2, g3, g4, g5, g6, g7, g8, g9, g10⟩ := hg
        have hle := am_run_le hf nn _ r h' hrun
        refine ⟨hle.1, hle.2, _, rfl, ?_⟩
        refine Met.ofW (cc := cc) (maxL := n) (ret := rt) g5 rfl ?_
        intro p e s m args below meth c s₁ B hml hv
        obtain ⟨rfl, hP, hK⟩ := hv
        have hts := atoms_spec (ws := .code y cc n rt :: am_tb) B.pre
        have C : am_C D dA o cc n rt ini p s m (As.map (am_rl b0 sz)).toArray meth c := ⟨B.exec, B.bytes, hml, by rw [g2]; exact findClass_of_methodNamed B.named, fun w hw => hts w (List.mem_cons_of_mem _ hw), B.returns, B.notSynchronized, fun hi => by rw [(name_of_methodNamed B.named B.method).1]; exact g7 hi, hK⟩
        rw [lg_entry_eq]
        have hlk : meth.locks = false := B.notSynchronized
        have key := am_runs (l := l) (e := e) (below := below) (R := am_rm (d + 1) (h'.1 - h.1) (h'.2.1 - h.2.1)) (Q := MQ below (am_Qc D dA b0 sz r h') (As.map (am_rl b0 sz)).toArray s (h'.1 - h.1) (h'.2.1 - h.2.1) (fun q => sz ≤ q)) (k0 := h.1) (n0 := h.2.1) (r := r) (h' := h') hms ih (Nat.le_refl _) (Nat.le_refl _) hbs C g9 ⟨Nat.le_refl _, Nat.le_refl _⟩
          (fun x hr hrt pc ls H locs hd hP' hS => by
            subst hr
            rcases hrt with hrt | ⟨hrt, hx⟩
            · exact W.iret B.exec B.bytes (by rw [B.returns]; exact hrt) (fun t ht hW => ⟨rfl, by rw [ht]; exact hP'.moved hW.alike, hS.F ht⟩) hS.2.2 hd
            · exact W.zret B.exec B.bytes (by rw [B.returns]; exact hrt) (am_nar_bool hx) (fun t ht hW => ⟨rfl, by rw [ht]; exact hP'.moved hW.alike, hS.F ht⟩) hS.2.2 hd)
          (fun x hr hrt pc ls H locs hd hP' hS => by
            subst hr
            exact W.lret B.exec B.bytes (by rw [B.returns]; exact hrt) (fun t ht hW => ⟨rfl, by rw [ht]; exact hP'.moved hW.alike, hS.F ht⟩) hS.2.2 hd)
          (fun hr hrt pc ls H locs hd hP' hS => by
            subst hr
            exact W.vret B.exec B.bytes (by rw [B.returns]; exact hrt) (fun t ht hW => ⟨rfl, by rw [ht]; exact hP'.moved hW.alike, hS.F ht⟩) hS.2.2 hd)
          nn _ hrun g9 (Nat.le_refl _) (Nat.le_refl _) 0 g10 s.heap [] _ hP va_S.rf (am_lv.entry n b0 sz As hlen)
        dsimp only at key
        rw [Nat.sub_self, Nat.sub_self] at key
        exact key
      · cases hev
