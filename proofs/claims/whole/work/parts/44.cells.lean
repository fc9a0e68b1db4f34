/-! Which cells a tree uses; a tree changed at a path. -/
def f_cc (ks zs : Nat → Nat) (c : Nat) : Fo → Nat × Bool → Nat
  | .leaf, _ => 0
  | .inner s k _ K N, q => (if ¬ (ks s = 1 ∨ ks s = 2) ∧ c = q.1 then 1 else 0) + f_cc ks zs c K (f_ka ks s k.2 q.1, f_kw ks s) + f_cc ks zs c N (q.1 + (if q.2 then 8 else zs s), q.2)
def c_inl (c a z : Nat) : Nat := if a ≤ c ∧ c < a + z then 1 else 0
def c_bo (ks : Nat → Nat) (c s : Nat) (k : Nat × Nat) : Nat := (if ks s = 4 ∧ 960 + k.2 * 8 ≤ c ∧ c < 960 + k.2 * 8 + 8 then 1 else 0) + (if ks s = 5 ∧ 1440 + k.2 * 64 ≤ c ∧ c < 1440 + k.2 * 64 + 64 then 1 else 0)
/-- how many of its boxes and rows have cell c -/
def c_blk (ks : Nat → Nat) (c : Nat) : Fo → Nat
  | .leaf => 0
  | .inner s k _ K N => c_bo ks c s k + c_blk ks c K + c_blk ks c N
theorem fA_blk (ks : Nat → Nat) (c : Nat) : fA (c_blk ks c) (c_bo ks c) := ⟨rfl, fun _ _ _ _ _ => rfl⟩
theorem c_inl_sp {c a x y z : Nat} (h : x + y ≤ z) : c_inl c a x + c_inl c (a + x) y ≤ c_inl c a z := by
  unfold c_inl
  split <;> split <;> split <;> omega
theorem c_inl_mo {c a x z : Nat} (h : x ≤ z) : c_inl c a x ≤ c_inl c a z := by
  unfold c_inl
  split <;> split <;> omega
theorem c_node_le {kn : Nat} {ks zs : Nat → Nat} {ps : Nat → Int32} {s c a : Nat} {k : Nat × Nat} {v : Int64} {K : Fo} (hS : s_ok kn ks zs ps) (hk : kn ≤ 24) (hs : s < kn) (hT : f_ty ks ps s v K) (hTK : f_okT kn ks ps K) : (if ¬ (ks s = 1 ∨ ks s = 2) ∧ c = a then 1 else 0) + c_inl c (f_ka ks s k.2 a) (f_ext zs K (f_kw ks s)) ≤ c_inl c a (zs s) + c_bo ks c s k := by
  obtain ⟨k1, k3, k4, k5⟩ := f_kids hS hk hs hT hTK
  have h5 := (hS.2 s hs).1
  have h1 := (hS.2 s hs).2.1
  unfold f_ka f_kw c_inl c_bo
  have : ks s = 0 ∨ (ks s = 1 ∨ ks s = 2) ∨ ks s = 3 ∨ ks s = 4 ∨ ks s = 5 := by omega
  rcases this with h | h | h | h | h
  · have hK : K = .leaf := by
      rcases hT with q | q | q | q | q <;> first | exact q.2 | (exfalso; omega)
    subst hK
    simp only [h, f_ext]
    simp only [Nat.reduceEqDiff, decide_false, if_false, false_and, or_self, not_false_eq_true, true_and, Nat.add_zero]
    split <;> split <;> split <;> omega
  · have e1 := k1 h
    have n3 : ¬ ks s = 3 := by omega
    have n4 : ¬ ks s = 4 := by omega
    have n5 : ¬ ks s = 5 := by omega
    simp only [n3, n4, n5, h, decide_false, if_false, false_and, not_true, e1, Nat.zero_add, Nat.add_zero]
    split <;> omega
  · have e1 := k3 h
    simp only [h, Nat.reduceEqDiff, decide_false, if_false, if_true, false_and, or_self, not_false_eq_true, true_and, Nat.add_zero]
    split <;> split <;> split <;> omega
  · have e1 := k4 h
    simp only [h, Nat.reduceEqDiff, decide_false, if_false, if_true, false_and, or_self, not_false_eq_true, true_and, Nat.add_zero]
    split <;> split <;> split <;> split <;> omega
  · have e1 := k5 h
    simp only [h, Nat.reduceEqDiff, decide_true, if_false, if_true, false_and, or_self, not_false_eq_true, true_and, Nat.zero_add]
    split <;> split <;> split <;> split <;> omega
theorem c_st (zs : Nat → Nat) (w : Bool) (s : Nat) (h : zs s ≤ 8) : zs s ≤ (if w then 8 else zs s) := by split <;> omega
theorem f_cc_le {kn : Nat} {ks zs : Nat → Nat} {ps : Nat → Int32} (hS : s_ok kn ks zs ps) (hk : kn ≤ 24) (c : Nat) : ∀ (F : Fo) (q : Nat × Bool), f_okT kn ks ps F → f_cc ks zs c F q ≤ c_inl c q.1 (f_ext zs F q.2) + c_blk ks c F
  | .leaf, q, _ => by simp [f_cc]
  | .inner s k v K N, q, h => by
    have e1 := f_cc_le hS hk c K (f_ka ks s k.2 q.1, f_kw ks s) h.2.2.1
    have e2 := f_cc_le hS hk c N (q.1 + (if q.2 then 8 else zs s), q.2) h.2.2.2
    have e3 := c_node_le (c := c) (a := q.1) (k := k) hS hk h.1 h.2.1 h.2.2.1
    have hz := (hS.2 s h.1).2.2.1
    have e4 := c_inl_mo (c := c) (a := q.1) (c_st zs q.2 s hz)
    have e5 := c_inl_sp (c := c) (a := q.1) (x := if q.2 then 8 else zs s) (y := f_ext zs N q.2) (Nat.le_refl _)
    simp only [f_cc, c_blk, f_ext]
    dsimp only at e1 e2 ⊢
    omega
/-- at a path: the first tree there, and what else uses its cells -/
theorem fb_cc {kn : Nat} {ks zs : Nat → Nat} {ps : Nat → Int32} (hS : s_ok kn ks zs ps) (hk : kn ≤ 24) (c : Nat) {s : Nat} {k : Nat × Nat} {v : Int64} {K N : Fo} : ∀ (p : List Bool) (F : Fo) (q : Nat × Bool), f_okT kn ks ps F → b_at F p = .inner s k v K N → f_cc ks zs c F q + c_inl c (b_ad ks zs F p q).1 (zs s) + (c_bo ks c s k + c_blk ks c K) ≤ f_cc ks zs c (.inner s k v K .leaf) (b_ad ks zs F p q) + c_inl c q.1 (f_ext zs F q.2) + c_blk ks c F ∧ f_cc ks zs c (.inner s k v K .leaf) (b_ad ks zs F p q) ≤ f_cc ks zs c F q
  | [], .leaf, _, _, h => by simp [b_at] at h
  | _ :: _, .leaf, _, _, h => by simp [b_at] at h
  | [], .inner s0 k0 v0 K0 N0, q, hT, h => by
    simp only [b_at, Std.DTreeMap.Internal.Impl.inner.injEq] at h
    obtain ⟨rfl, rfl, h3, rfl, rfl⟩ := h
    have hz := (hS.2 s0 hT.1).2.2.1
    have e2 := f_cc_le hS hk c N0 (q.1 + (if q.2 then 8 else zs s0), q.2) hT.2.2.2
    have e4 := c_inl_mo (c := c) (a := q.1) (c_st zs q.2 s0 hz)
    have e5 := c_inl_sp (c := c) (a := q.1) (x := if q.2 then 8 else zs s0) (y := f_ext zs N0 q.2) (Nat.le_refl _)
    have u1 : f_cc ks zs c (.inner s0 k0 v0 K0 N0) q = f_cc ks zs c (.inner s0 k0 v K0 .leaf) q + f_cc ks zs c N0 (q.1 + (if q.2 then 8 else zs s0), q.2) := rfl
    rw [u1]
    simp only [c_blk, f_ext, b_ad]
    dsimp only at e2 ⊢
    omega
  | true :: p, .inner s0 k0 v0 K0 N0, q, hT, h => by
    obtain ⟨e1, e6⟩ := fb_cc hS hk c p K0 (f_ka ks s0 k0.2 q.1, f_kw ks s0) hT.2.2.1 h
    have e2 := f_cc_le hS hk c N0 (q.1 + (if q.2 then 8 else zs s0), q.2) hT.2.2.2
    have e3 := c_node_le (c := c) (a := q.1) (k := k0) hS hk hT.1 hT.2.1 hT.2.2.1
    have hz := (hS.2 s0 hT.1).2.2.1
    have e4 := c_inl_mo (c := c) (a := q.1) (c_st zs q.2 s0 hz)
    have e5 := c_inl_sp (c := c) (a := q.1) (x := if q.2 then 8 else zs s0) (y := f_ext zs N0 q.2) (Nat.le_refl _)
    have u : ∀ Q, f_cc ks zs c (.inner s0 k0 v0 K0 N0) Q = (if ¬ (ks s0 = 1 ∨ ks s0 = 2) ∧ c = Q.1 then 1 else 0) + f_cc ks zs c K0 (f_ka ks s0 k0.2 Q.1, f_kw ks s0) + f_cc ks zs c N0 (Q.1 + (if Q.2 then 8 else zs s0), Q.2) := fun Q => rfl
    rw [u]
    simp only [c_blk, f_ext, b_ad]
    dsimp only at e1 e2 e6 ⊢
    omega
  | false :: p, .inner s0 k0 v0 K0 N0, q, hT, h => by
    obtain ⟨e1, e6⟩ := fb_cc hS hk c p N0 (q.1 + (if q.2 then 8 else zs s0), q.2) hT.2.2.2 h
    have e2 := f_cc_le hS hk c K0 (f_ka ks s0 k0.2 q.1, f_kw ks s0) hT.2.2.1
    have e3 := c_node_le (c := c) (a := q.1) (k := k0) hS hk hT.1 hT.2.1 hT.2.2.1
    have hz := (hS.2 s0 hT.1).2.2.1
    have e4 := c_inl_mo (c := c) (a := q.1) (c_st zs q.2 s0 hz)
    have e5 := c_inl_sp (c := c) (a := q.1) (x := if q.2 then 8 else zs s0) (y := f_ext zs N0 q.2) (Nat.le_refl _)
    have u : ∀ Q, f_cc ks zs c (.inner s0 k0 v0 K0 N0) Q = (if ¬ (ks s0 = 1 ∨ ks s0 = 2) ∧ c = Q.1 then 1 else 0) + f_cc ks zs c K0 (f_ka ks s0 k0.2 Q.1, f_kw ks s0) + f_cc ks zs c N0 (Q.1 + (if Q.2 then 8 else zs s0), Q.2) := fun Q => rfl
    rw [u]
    simp only [c_blk, f_ext, b_ad]
    dsimp only at e1 e2 e6 ⊢
    omega
/-- what a node has itself -/
def f_own (ks : Nat → Nat) (ce : Nat → Int64) (rl : Nat → Nat) (s : Nat) (k : Nat × Nat) (v : Int64) (a l : Nat) : Prop := (ks s = 0 → ce a = v) ∧ (ks s = 3 → ce a = v) ∧ (ks s = 4 → ce a = lN k.2 ∧ k.2 < 60) ∧ (ks s = 5 → ce a = lN k.2 ∧ k.2 < 20 ∧ rl k.2 = l)
theorem f_okC_iff {ks zs : Nat → Nat} {ps : Nat → Int32} {ce : Nat → Int64} {rl : Nat → Nat} {s a : Nat} {k : Nat × Nat} {v : Int64} {K N : Fo} {w : Bool} (h5 : ks s ≤ 5) (hT : f_ty ks ps s v K) : f_okC ks zs ce rl (.inner s k v K N) a w ↔ f_own ks ce rl s k v a (f_len K) ∧ f_okC ks zs ce rl K (f_ka ks s k.2 a) (f_kw ks s) ∧ f_okC ks zs ce rl N (a + if w then 8 else zs s) w := by
  have : ks s = 0 ∨ (ks s = 1 ∨ ks s = 2) ∨ ks s = 3 ∨ ks s = 4 ∨ ks s = 5 := by omega
  unfold f_own f_ka f_kw
  simp only [f_okC]
  rcases this with h | h | h | h | h
  · have hK : K = .leaf := by
      rcases hT with q | q | q | q | q <;> first | exact q.2 | (exfalso; omega)
    subst hK
    simp [h, f_okC]
  · have n0 : ¬ ks s = 0 := by omega
    have n3 : ¬ ks s = 3 := by omega
    have n4 : ¬ ks s = 4 := by omega
    have n5 : ¬ ks s = 5 := by omega
    simp only [n0, n3, n4, n5, h, false_implies, true_implies, true_and, and_true, if_false, decide_false]
  · simp only [h, Nat.reduceEqDiff, false_implies, true_implies, true_and, and_true, or_self, if_true, if_false, decide_false, and_assoc]
  · simp only [h, Nat.reduceEqDiff, false_implies, true_implies, true_and, and_true, or_self, if_true, if_false, decide_false, and_assoc]
  · simp only [h, Nat.reduceEqDiff, false_implies, true_implies, true_and, and_true, or_self, if_true, if_false, decide_true, and_assoc]
theorem f_own_fr {ks : Nat → Nat} {ce ce2 : Nat → Int64} {rl rl2 : Nat → Nat} {s a l : Nat} {k : Nat × Nat} {v : Int64} (h : f_own ks ce rl s k v a l) (h1 : ¬ (ks s = 1 ∨ ks s = 2) → ce2 a = ce a) (h2 : ks s = 5 → rl2 k.2 = rl k.2) : f_own ks ce2 rl2 s k v a l := by
  obtain ⟨a0, a3, a4, a5⟩ := h
  refine ⟨fun e => ?_, fun e => ?_, fun e => ?_, fun e => ?_⟩
  · rw [h1 (by omega)]; exact a0 e
  · rw [h1 (by omega)]; exact a3 e
  · rw [h1 (by omega)]; exact a4 e
  · rw [h1 (by omega), h2 e]; exact a5 e
/-- cells of others change -/
theorem okC_fr {kn : Nat} {ks zs : Nat → Nat} {ps : Nat → Int32} {ce ce2 : Nat → Int64} {rl rl2 : Nat → Nat} (hS : s_ok kn ks zs ps) : ∀ (F : Fo) (a : Nat) (w : Bool), f_okT kn ks ps F → f_okC ks zs ce rl F a w → (∀ c, 0 < f_cc ks zs c F (a, w) → ce2 c = ce c) → (∀ j, 0 < f_cb ks 5 j F → rl2 j = rl j) → f_okC ks zs ce2 rl2 F a w
  | .leaf, _, _, _, _, _, _ => trivial
  | .inner s k v K N, a, w, hT, hC, h1, h2 => by
    have h5 := (hS.2 s hT.1).1
    rw [f_okC_iff h5 hT.2.1] at hC ⊢
    simp only [f_cc] at h1
    simp only [f_cb] at h2
    exact ⟨f_own_fr hC.1 (fun e => h1 a (by simp only [e, not_false_eq_true, and_self, if_true]; omega)) (fun e => h2 _ (by simp only [e, and_self, if_true]; omega)), okC_fr hS K _ _ hT.2.2.1 hC.2.1 (fun c hc => h1 c (by omega)) (fun j hj => h2 j (by omega)), okC_fr hS N _ _ hT.2.2.2 hC.2.2 (fun c hc => h1 c (by omega)) (fun j hj => h2 j (by omega))⟩
/-- the first tree at a path gets another id, number and kids -/
theorem okC_set {kn : Nat} {ks zs : Nat → Nat} {ps : Nat → Int32} {ce ce2 : Nat → Int64} {rl rl2 : Nat → Nat} {s : Nat} {k k' : Nat × Nat} {v v' : Int64} {K K' N : Fo} (hS : s_ok kn ks zs ps) (hk : kn ≤ 24) : ∀ (p : List Bool) (F : Fo) (q : Nat × Bool), f_okT kn ks ps F → b_at F p = .inner s k v K N → f_okC ks zs ce rl F q.1 q.2 → f_okC ks zs ce2 rl2 (.inner s k' v' K' .leaf) (b_ad ks zs F p q).1 false → (∀ c, f_cc ks zs c (.inner s k v K .leaf) (b_ad ks zs F p q) < f_cc ks zs c F q → ce2 c = ce c) → (∀ j, f_cb ks 5 j (.inner s k v K .leaf) < f_cb ks 5 j F → rl2 j = rl j) → f_okC ks zs ce2 rl2 (b_set k' v' K' F p) q.1 q.2
  | [], .leaf, _, _, h, _, _, _, _ => by simp [b_at] at h
  | _ :: _, .leaf, _, _, h, _, _, _, _ => by simp [b_at] at h
  | [], .inner s0 k0 v0 K0 N0, q, hT, h, hC, hn', h1, h2 => by
    simp only [b_at, Std.DTreeMap.Internal.Impl.inner.injEq] at h
    obtain ⟨rfl, rfl, h3, rfl, rfl⟩ := h
    simp only [b_ad] at hn' h1
    simp only [f_cc, Nat.add_zero] at h1
    simp only [f_cb, Nat.add_zero] at h2
    refine ⟨hn'.1, okC_fr hS N0 _ _ hT.2.2.2 hC.2 (fun c hc => h1 c (by omega)) (fun j hj => h2 j (by omega))⟩
  | true :: p, .inner s0 k0 v0 K0 N0, q, hT, h, hC, hn', h1, h2 => by
    have h5 := (hS.2 s0 hT.1).1
    have hle := fun c => (fb_cc hS hk c p K0 (f_ka ks s0 k0.2 q.1, f_kw ks s0) hT.2.2.1 h).2
    have hlb := fun j => fb_Ale (fA_cb ks 5 j) p K0 h
    rw [f_okC_iff h5 hT.2.1] at hC
    simp only [b_set]
    rw [f_okC_iff h5 (f_ty_sh hT.2.1 (fb_len p K0) (fb_sh p K0)), fb_len]
    have u : ∀ c Q, f_cc ks zs c (.inner s0 k0 v0 K0 N0) Q = (if ¬ (ks s0 = 1 ∨ ks s0 = 2) ∧ c = Q.1 then 1 else 0) + f_cc ks zs c K0 (f_ka ks s0 k0.2 Q.1, f_kw ks s0) + f_cc ks zs c N0 (Q.1 + (if Q.2 then 8 else zs s0), Q.2) := fun c Q => rfl
    have u2 : ∀ j, f_cb ks 5 j (.inner s0 k0 v0 K0 N0) = (if ks s0 = 5 ∧ k0.2 = j then 1 else 0) + f_cb ks 5 j K0 + f_cb ks 5 j N0 := fun j => rfl
    have u3 : ∀ j, f_cb ks 5 j (.inner s k v K .leaf) = (if ks s = 5 ∧ k.2 = j then 1 else 0) + f_cb ks 5 j K := fun j => rfl
    simp only [b_ad] at hn' h1
    refine ⟨f_own_fr hC.1 (fun e => h1 q.1 ?_) (fun e => h2 _ ?_), okC_set hS hk p K0 _ hT.2.2.1 h hC.2.1 hn' (fun c hc => h1 c ?_) (fun j hj => h2 j ?_), okC_fr hS N0 _ _ hT.2.2.2 hC.2.2 (fun c hc => h1 c ?_) (fun j hj => h2 j ?_)⟩
    · rw [u]; have := hle q.1; simp only [e, not_false_eq_true, and_self, if_true]; omega
    · rw [u2, u3]; have := hlb k0.2; simp only [e, and_self, if_true]; omega
    · rw [u]; omega
    · rw [u2]; omega
    · rw [u]; have := hle c; omega
    · rw [u2, u3]; have := hlb j; omega
  | false :: p, .inner s0 k0 v0 K0 N0, q, hT, h, hC, hn', h1, h2 => by
    have h5 := (hS.2 s0 hT.1).1
    have hle := fun c => (fb_cc hS hk c p N0 (q.1 + (if q.2 then 8 else zs s0), q.2) hT.2.2.2 h).2
    have hlb := fun j => fb_Ale (fA_cb ks 5 j) p N0 h
    rw [f_okC_iff h5 hT.2.1] at hC
    simp only [b_set]
    rw [f_okC_iff h5 hT.2.1]
    have u : ∀ c Q, f_cc ks zs c (.inner s0 k0 v0 K0 N0) Q = (if ¬ (ks s0 = 1 ∨ ks s0 = 2) ∧ c = Q.1 then 1 else 0) + f_cc ks zs c K0 (f_ka ks s0 k0.2 Q.1, f_kw ks s0) + f_cc ks zs c N0 (Q.1 + (if Q.2 then 8 else zs s0), Q.2) := fun c Q => rfl
    have u2 : ∀ j, f_cb ks 5 j (.inner s0 k0 v0 K0 N0) = (if ks s0 = 5 ∧ k0.2 = j then 1 else 0) + f_cb ks 5 j K0 + f_cb ks 5 j N0 := fun j => rfl
    have u3 : ∀ j, f_cb ks 5 j (.inner s k v K .leaf) = (if ks s = 5 ∧ k.2 = j then 1 else 0) + f_cb ks 5 j K := fun j => rfl
    simp only [b_ad] at hn' h1
    refine ⟨f_own_fr hC.1 (fun e => h1 q.1 ?_) (fun e => h2 _ ?_), okC_fr hS K0 _ _ hT.2.2.1 hC.2.1 (fun c hc => h1 c ?_) (fun j hj => h2 j ?_), okC_set hS hk p N0 _ hT.2.2.2 h hC.2.2 hn' (fun c hc => h1 c ?_) (fun j hj => h2 j ?_)⟩
    · rw [u]; have := hle q.1; simp only [e, not_false_eq_true, and_self, if_true]; omega
    · rw [u2, u3]; have := hlb k0.2; simp only [e, and_self, if_true]; omega
    · rw [u]; have := hle c; omega
    · rw [u2, u3]; have := hlb j; omega
    · rw [u]; omega
    · rw [u2]; omega
