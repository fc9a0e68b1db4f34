/-! Paths into a tree: true to the kids, false to the next. -/
def b_at : Fo → List Bool → Fo
  | F, [] => F
  | .leaf, _ :: _ => .leaf
  | .inner _ _ _ K _, true :: p => b_at K p
  | .inner _ _ _ _ N, false :: p => b_at N p
/-- the first tree at a path gets another id, number and kids -/
def b_set (k' : Nat × Nat) (v' : Int64) (K' : Fo) : Fo → List Bool → Fo
  | .leaf, _ => .leaf
  | .inner s _ _ _ N, [] => .inner s k' v' K' N
  | .inner s k v K N, true :: p => .inner s k v (b_set k' v' K' K p) N
  | .inner s k v K N, false :: p => .inner s k v K (b_set k' v' K' N p)
/-- where it lies -/
def b_ad (ks zs : Nat → Nat) : Fo → List Bool → Nat × Bool → Nat × Bool
  | .inner s k _ K _, true :: p, q => b_ad ks zs K p (f_ka ks s k.2 q.1, f_kw ks s)
  | .inner s _ _ _ N, false :: p, q => b_ad ks zs N p (q.1 + (if q.2 then 8 else zs s), q.2)
  | _, _, q => q
theorem fb_ok {kn : Nat} {ks zs : Nat → Nat} {ps : Nat → Int32} {ce : Nat → Int64} {rl : Nat → Nat} (hS : s_ok kn ks zs ps) (hk : kn ≤ 24) : ∀ (p : List Bool) (F : Fo) (q : Nat × Bool), sOk kn ks zs ps ce rl (F, q) → sOk kn ks zs ps ce rl (b_at F p, b_ad ks zs F p q)
  | [], F, q, h => by cases F <;> simpa only [b_at, b_ad] using h
  | b :: p, .leaf, q, h => by simpa only [b_at, b_ad] using h
  | true :: p, .inner s k v K N, (a, w), h => fb_ok hS hk p K _ (sOk_in hS hk h).2.1
  | false :: p, .inner s k v K N, (a, w), h => fb_ok hS hk p N _ (sOk_in hS hk h).2.2
theorem fb_len {k' : Nat × Nat} {v' : Int64} {K' : Fo} : ∀ (p : List Bool) (F : Fo), f_len (b_set k' v' K' F p) = f_len F
  | _, .leaf => by simp only [b_set]
  | [], .inner s k v K N => rfl
  | true :: p, .inner s k v K N => rfl
  | false :: p, .inner s k v K N => by simp only [b_set, f_len, fb_len p N]
theorem fb_sh {k' : Nat × Nat} {v' : Int64} {K' : Fo} : ∀ (p : List Bool) (F : Fo) (i : Nat), f_sh (b_set k' v' K' F p) i = f_sh F i
  | _, .leaf, i => by simp only [b_set]
  | [], .inner s k v K N, 0 => rfl
  | [], .inner s k v K N, i + 1 => rfl
  | true :: p, .inner s k v K N, 0 => rfl
  | true :: p, .inner s k v K N, i + 1 => rfl
  | false :: p, .inner s k v K N, 0 => rfl
  | false :: p, .inner s k v K N, i + 1 => by simp only [b_set, f_sh, fb_sh p N i]
theorem fb_A {f : Fo → Nat} {φ : Nat → Nat × Nat → Nat} (hA : fA f φ) {k' : Nat × Nat} {v' : Int64} {K' : Fo} {s : Nat} {k : Nat × Nat} {v : Int64} {K N : Fo} : ∀ (p : List Bool) (F : Fo), b_at F p = .inner s k v K N → f (b_set k' v' K' F p) + (φ s k + f K) = f F + (φ s k' + f K')
  | [], .leaf, h => by simp [b_at] at h
  | _ :: _, .leaf, h => by simp [b_at] at h
  | [], .inner s0 k0 v0 K0 N0, h => by
    simp only [b_at, Std.DTreeMap.Internal.Impl.inner.injEq] at h
    obtain ⟨rfl, rfl, h3, rfl, rfl⟩ := h
    simp only [b_set, hA.2]; omega
  | true :: p, .inner s0 k0 v0 K0 N0, h => by
    have := fb_A hA (k' := k') (v' := v') (K' := K') p K0 h
    simp only [b_set, hA.2]; omega
  | false :: p, .inner s0 k0 v0 K0 N0, h => by
    have := fb_A hA (k' := k') (v' := v') (K' := K') p N0 h
    simp only [b_set, hA.2]; omega
theorem fb_Ale {f : Fo → Nat} {φ : Nat → Nat × Nat → Nat} (hA : fA f φ) {s : Nat} {k : Nat × Nat} {v : Int64} {K N : Fo} : ∀ (p : List Bool) (F : Fo), b_at F p = .inner s k v K N → φ s k + f K ≤ f F
  | [], .leaf, h => by simp [b_at] at h
  | _ :: _, .leaf, h => by simp [b_at] at h
  | [], .inner s0 k0 v0 K0 N0, h => by
    simp only [b_at, Std.DTreeMap.Internal.Impl.inner.injEq] at h
    obtain ⟨rfl, rfl, h3, rfl, rfl⟩ := h
    simp only [hA.2]; omega
  | true :: p, .inner s0 k0 v0 K0 N0, h => by
    have := fb_Ale hA p K0 h
    simp only [hA.2]; omega
  | false :: p, .inner s0 k0 v0 K0 N0, h => by
    have := fb_Ale hA p N0 h
    simp only [hA.2]; omega
theorem f_ty_sh {ks : Nat → Nat} {ps : Nat → Int32} {s : Nat} {v : Int64} {K K2 : Fo} (h : f_ty ks ps s v K) (hl : f_len K2 = f_len K) (hs : ∀ i, f_sh K2 i = f_sh K i) : f_ty ks ps s v K2 := by
  have h0 : K = .leaf → K2 = .leaf := fun e => f_len0 (by rw [hl, e]; rfl)
  rcases h with ⟨a, b⟩ | ⟨a, b, c⟩ | ⟨a, t, b, c, e⟩ | ⟨a, b, c⟩ | ⟨a, b, c, e⟩
  · exact Or.inl ⟨a, h0 b⟩
  · exact Or.inr (Or.inl ⟨a, by rw [hl, b], fun i hi => by rw [hs, c i (by omega)]⟩)
  · refine Or.inr (Or.inr (Or.inl ⟨a, t, b, c, ?_⟩))
    rcases e with ⟨e1, e2⟩ | ⟨e1, e2⟩
    · exact Or.inl ⟨e1, h0 e2⟩
    · exact Or.inr ⟨by rw [hl, e1], by rw [hs, e2]⟩
  · exact Or.inr (Or.inr (Or.inr (Or.inl ⟨a, by rw [hl, b], by rw [hs, c]⟩)))
  · exact Or.inr (Or.inr (Or.inr (Or.inr ⟨a, by rw [hl, b], by rw [hl]; exact c, fun i hi => by rw [hs, e i (by omega)]⟩)))
theorem fb_T {kn : Nat} {ks : Nat → Nat} {ps : Nat → Int32} {k' : Nat × Nat} {v' : Int64} {K' : Fo} {s : Nat} {k : Nat × Nat} {v : Int64} {K N : Fo} (h1 : f_ty ks ps s v' K') (h2 : f_okT kn ks ps K') : ∀ (p : List Bool) (F : Fo), b_at F p = .inner s k v K N → f_okT kn ks ps F → f_okT kn ks ps (b_set k' v' K' F p)
  | [], .leaf, h, _ => by simp [b_at] at h
  | _ :: _, .leaf, h, _ => by simp [b_at] at h
  | [], .inner s0 k0 v0 K0 N0, h, hT => by
    simp only [b_at, Std.DTreeMap.Internal.Impl.inner.injEq] at h
    obtain ⟨rfl, rfl, h3, rfl, rfl⟩ := h
    exact ⟨hT.1, h1, h2, hT.2.2.2⟩
  | true :: p, .inner s0 k0 v0 K0 N0, h, hT => ⟨hT.1, f_ty_sh hT.2.1 (fb_len p K0) (fb_sh p K0), fb_T h1 h2 p K0 h hT.2.2.1, hT.2.2.2⟩
  | false :: p, .inner s0 k0 v0 K0 N0, h, hT => ⟨hT.1, hT.2.1, hT.2.2.1, fb_T h1 h2 p N0 h hT.2.2.2⟩
theorem fb_rt {k' : Nat × Nat} {v' : Int64} {K' : Fo} {s : Nat} {k : Nat × Nat} {v : Int64} {K N : Fo} (he1 : k'.1 = k.1) : ∀ (p : List Bool) (F : Fo) (i : Nat), b_at F p = .inner s k v K N → f_rt (b_set k' v' K' F p) i = f_rt F i
  | [], .leaf, i, h => by simp [b_at] at h
  | _ :: _, .leaf, i, h => by simp [b_at] at h
  | [], .inner s0 k0 v0 K0 N0, i, h => by
    simp only [b_at, Std.DTreeMap.Internal.Impl.inner.injEq] at h
    obtain ⟨rfl, rfl, h3, rfl, rfl⟩ := h
    cases i <;> simp only [b_set, f_rt, he1]
  | true :: p, .inner s0 k0 v0 K0 N0, 0, h => rfl
  | true :: p, .inner s0 k0 v0 K0 N0, i + 1, h => rfl
  | false :: p, .inner s0 k0 v0 K0 N0, 0, h => rfl
  | false :: p, .inner s0 k0 v0 K0 N0, i + 1, h => fb_rt he1 p N0 i h
theorem fb_Rat {so ki : Nat → Nat} {nu : Nat → Int64} : ∀ (p : List Bool) (F : Fo), f_okR so ki nu F → f_okR so ki nu (b_at F p)
  | [], F, h => by cases F <;> simpa only [b_at] using h
  | b :: p, .leaf, h => by simpa only [b_at] using h
  | true :: p, .inner s k v K N, h => fb_Rat p K h.2.1
  | false :: p, .inner s k v K N, h => fb_Rat p N h.2.2
/-- one node's number and kids change; the other nodes stay -/
theorem fb_R {so ki ki2 : Nat → Nat} {nu nu2 : Nat → Int64} {j' : Nat} {v' : Int64} {K' : Fo} {s : Nat} {k : Nat × Nat} {v : Int64} {K N : Fo} (h1 : so k.1 = s ∧ nu2 k.1 = v' ∧ ∀ i, i < 8 → ki2 (8 * k.1 + i) = f_rt K' i) (h2 : f_okR so ki2 nu2 K') : ∀ (p : List Bool) (F : Fo), b_at F p = .inner s k v K N → f_okR so ki nu F → (∀ z, f_cx z (.inner s k v K .leaf) < f_cx z F → nu2 z = nu z ∧ ∀ i, i < 8 → ki2 (8 * z + i) = ki (8 * z + i)) → f_okR so ki2 nu2 (b_set (k.1, j') v' K' F p)
  | [], .leaf, h, _, _ => by simp [b_at] at h
  | _ :: _, .leaf, h, _, _ => by simp [b_at] at h
  | [], .inner s0 k0 v0 K0 N0, h, hR, hz => by
    simp only [b_at, Std.DTreeMap.Internal.Impl.inner.injEq] at h
    obtain ⟨rfl, rfl, h3, rfl, rfl⟩ := h
    exact ⟨h1, h2, f_okR_kp hR.2.2 (fun z hh => ⟨rfl, hz z (by simp only [f_cx]; omega)⟩)⟩
  | true :: p, .inner s0 k0 v0 K0 N0, h, hR, hz => by
    have hle := fun z => fb_Ale (fA_cx z) p K0 h
    have h0 := hz k0.1 (by have := hle k0.1; simp only [f_cx, if_true] at this ⊢; omega)
    refine ⟨⟨hR.1.1, by rw [h0.1]; exact hR.1.2.1, fun i hi => ?_⟩, fb_R h1 h2 p K0 h hR.2.1 (fun z hh => hz z (by simp only [f_cx] at hh ⊢; omega)), f_okR_kp hR.2.2 (fun z hh => ⟨rfl, hz z (by have := hle z; simp only [f_cx] at this ⊢; omega)⟩)⟩
    rw [h0.2 i hi, hR.1.2.2 i hi]
    have h' : b_at K0 p = .inner s k v K N := h
    exact (fb_rt (k' := (k.1, j')) (k := k) rfl p K0 i h').symm
  | false :: p, .inner s0 k0 v0 K0 N0, h, hR, hz => by
    have hle := fun z => fb_Ale (fA_cx z) p N0 h
    have h0 := hz k0.1 (by have := hle k0.1; simp only [f_cx, if_true] at this ⊢; omega)
    refine ⟨⟨hR.1.1, by rw [h0.1]; exact hR.1.2.1, fun i hi => by rw [h0.2 i hi, hR.1.2.2 i hi]⟩, f_okR_kp hR.2.1 (fun z hh => ⟨rfl, hz z (by have := hle z; simp only [f_cx] at this ⊢; omega)⟩), fb_R h1 h2 p N0 h hR.2.2 (fun z hh => hz z (by simp only [f_cx] at hh ⊢; omega))⟩
/-- the kid i of K replaced -/
theorem kd_set {K' : Fo} {k' : Nat × Nat} {v' : Int64} {s : Nat} {k : Nat × Nat} {v : Int64} {K1 N : Fo} : ∀ (i : Nat) (K : Fo), b_at K (List.replicate i false) = .inner s k v K1 N → i < f_len K ∧ f_sh K i = s ∧ f_rt K i = k.1 ∧ ∀ t, f_rt (b_set k' v' K' K (List.replicate i false)) t = if t = i then k'.1 else f_rt K t
  | 0, .leaf, h => by simp [b_at] at h
  | i + 1, .leaf, h => by simp [b_at, List.replicate] at h
  | 0, .inner s0 k0 v0 K0 N0, h => by
    simp only [List.replicate, b_at, Std.DTreeMap.Internal.Impl.inner.injEq] at h
    obtain ⟨rfl, rfl, h3, rfl, rfl⟩ := h
    refine ⟨by simp [f_len], rfl, rfl, fun t => ?_⟩
    cases t <;> simp [List.replicate, b_set, f_rt]
  | i + 1, .inner s0 k0 v0 K0 N0, h => by
    simp only [List.replicate, b_at] at h
    obtain ⟨a1, a2, a3, a4⟩ := kd_set (K' := K') (k' := k') (v' := v') i N0 h
    refine ⟨by simp only [f_len]; omega, a2, a3, fun t => ?_⟩
    cases t with
    | zero => simp [List.replicate, b_set, f_rt]
    | succ t => simp only [List.replicate, b_set, f_rt, a4 t, Nat.add_right_cancel_iff]
/-- kid i there, or not -/
theorem kd_at : ∀ (i : Nat) (K : Fo), i < f_len K → ∃ s k v K1 N, b_at K (List.replicate i false) = .inner s k v K1 N
  | _, .leaf, h => by simp [f_len] at h
  | 0, .inner s k v K N, _ => ⟨s, k, v, K, N, rfl⟩
  | i + 1, .inner s k v K N, h => kd_at i N (by simp only [f_len] at h; omega)
theorem b_at_app : ∀ (p q : List Bool) (F : Fo), b_at F (p ++ q) = b_at (b_at F p) q
  | [], q, F => by simp only [b_at, List.nil_append]
  | b :: p, [], .leaf => by simp [b_at]
  | b :: p, c :: q, .leaf => by simp [b_at]
  | true :: p, q, .inner s k v K N => by simp only [List.cons_append, b_at]; exact b_at_app p q K
  | false :: p, q, .inner s k v K N => by simp only [List.cons_append, b_at]; exact b_at_app p q N
theorem b_ad_app {ks zs : Nat → Nat} : ∀ (p q : List Bool) (F : Fo) (e : Nat × Bool), b_ad ks zs F (p ++ q) e = b_ad ks zs (b_at F p) q (b_ad ks zs F p e)
  | [], q, F, e => by cases F <;> simp only [b_at, List.nil_append, b_ad]
  | b :: p, [], .leaf, e => by simp [b_at, b_ad]
  | b :: p, c :: q, .leaf, e => by simp [b_at, b_ad]
  | true :: p, q, .inner s k v K N, e => by simp only [List.cons_append, b_at, b_ad]; exact b_ad_app p q K _
  | false :: p, q, .inner s k v K N, e => by simp only [List.cons_append, b_at, b_ad]; exact b_ad_app p q N _
theorem b_set_app {k' : Nat × Nat} {v' : Int64} {K' : Fo} {s : Nat} {k : Nat × Nat} {v : Int64} {K N : Fo} (q : List Bool) : ∀ (p : List Bool) (F : Fo), b_at F p = .inner s k v K N → b_set k' v' K' F (p ++ true :: q) = b_set k v (b_set k' v' K' K q) F p
  | [], .leaf, h => by simp [b_at] at h
  | _ :: _, .leaf, h => by simp [b_at] at h
  | [], .inner s0 k0 v0 K0 N0, h => by
    simp only [b_at, Std.DTreeMap.Internal.Impl.inner.injEq] at h
    obtain ⟨rfl, rfl, h3, rfl, rfl⟩ := h
    cases h3
    rfl
  | true :: p, .inner s0 k0 v0 K0 N0, h => by simp only [List.cons_append, b_set, b_set_app q p K0 h]
  | false :: p, .inner s0 k0 v0 K0 N0, h => by simp only [List.cons_append, b_set, b_set_app q p N0 h]
