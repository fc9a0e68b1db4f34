/-! Places: what lies apart. -/
theorem c_bo_eq {ks : Nat → Nat} {c s : Nat} {k : Nat × Nat} : c_bo ks c s k = (if 960 ≤ c then (if ks s = 4 ∧ k.2 = (c - 960) / 8 then 1 else 0) else 0) + (if 1440 ≤ c then (if ks s = 5 ∧ k.2 = (c - 1440) / 64 then 1 else 0) else 0) := by
  have e1 : (960 + k.2 * 8 ≤ c ∧ c < 960 + k.2 * 8 + 8) ↔ 960 ≤ c ∧ k.2 = (c - 960) / 8 := by omega
  have e2 : (1440 + k.2 * 64 ≤ c ∧ c < 1440 + k.2 * 64 + 64) ↔ 1440 ≤ c ∧ k.2 = (c - 1440) / 64 := by omega
  unfold c_bo
  simp only [e1, e2]
  by_cases h1 : 960 ≤ c
  · by_cases h2 : 1440 ≤ c
    · simp only [h1, h2, true_and, if_true]
    · simp only [h1, h2, true_and, false_and, and_false, if_true, if_false]
  · have h2 : ¬ 1440 ≤ c := by omega
    simp only [h1, h2, false_and, and_false, if_false]
theorem c_blk_eq {ks : Nat → Nat} {c : Nat} : ∀ F : Fo, c_blk ks c F = (if 960 ≤ c then f_cb ks 4 ((c - 960) / 8) F else 0) + (if 1440 ≤ c then f_cb ks 5 ((c - 1440) / 64) F else 0)
  | .leaf => by simp [c_blk, f_cb]
  | .inner s k v K N => by
    have h1 := c_blk_eq (ks := ks) (c := c) K
    have h2 := c_blk_eq (ks := ks) (c := c) N
    have h3 := c_bo_eq (ks := ks) (c := c) (s := s) (k := k)
    simp only [c_blk, f_cb]
    rw [h1, h2, h3]
    by_cases g1 : 960 ≤ c
    · by_cases g2 : 1440 ≤ c
      · simp only [g1, g2, if_true]; omega
      · simp only [g1, g2, if_true, if_false]; omega
    · by_cases g2 : 1440 ≤ c
      · simp only [g1, g2, if_true, if_false]; omega
      · simp only [g1, g2, if_false]
/-- cells of a root: its eight, and its boxes and rows -/
def uC (ks : Nat → Nat) (R : Nat → Fo) (r c : Nat) : Nat := c_inl c (8 * r) 8 + c_blk ks c (R r)
theorem uC_two {kn : Nat} {ks zs : Nat → Nat} {ps : Nat → Int32} {ce : Nat → Int64} {bt rt rl : Nat → Nat} {nb nr : Nat} {R : Nat → Fo} (hS : s_ok kn ks zs ps) (hT : IT kn ks ps R) (hC : IC1 ks zs ce bt rt rl nb nr R) {r r2 : Nat} (hr : r < 120) (hr2 : r2 < 120) (h : r ≠ r2) (c : Nat) : uC ks R r c + uC ks R r2 c ≤ 1 := by
  unfold uC c_inl
  rw [c_blk_eq, c_blk_eq]
  have e4 := rF_two (f_cb ks 4 ((c - 960) / 8)) R hr hr2 h
  have e5 := rF_two (f_cb ks 5 ((c - 1440) / 64)) R hr hr2 h
  have g4 := hC.2.1 ((c - 960) / 8)
  have g5 := hC.2.2.1 ((c - 1440) / 64)
  have l4 := (id_lt hS hT hC).1 ((c - 960) / 8)
  have l5 := (id_lt hS hT hC).2 ((c - 1440) / 64)
  by_cases h9 : 960 ≤ c
  · have i1 : ¬ (8 * r ≤ c ∧ c < 8 * r + 8) := by omega
    have i2 : ¬ (8 * r2 ≤ c ∧ c < 8 * r2 + 8) := by omega
    by_cases h14 : 1440 ≤ c
    · simp only [h9, h14, i1, i2, if_true, if_false]
      rcases Nat.eq_zero_or_pos (bt ((c - 960) / 8)) with q | q
      · omega
      · have := l4 q; omega
    · simp only [h9, h14, i1, i2, if_true, if_false]; omega
  · have h14 : ¬ 1440 ≤ c := by omega
    simp only [h9, h14, if_false]
    split <;> split <;> omega
theorem uC_one {kn : Nat} {ks zs : Nat → Nat} {ps : Nat → Int32} {ce : Nat → Int64} {bt rt rl : Nat → Nat} {nb nr : Nat} {R : Nat → Fo} (hS : s_ok kn ks zs ps) (hT : IT kn ks ps R) (hC : IC1 ks zs ce bt rt rl nb nr R) {r : Nat} (hr : r < 120) (c : Nat) : uC ks R r c ≤ 1 := by
  by_cases h : r = 0
  · have := uC_two hS hT hC hr (show 1 < 120 by omega) (by omega) c; omega
  · have := uC_two hS hT hC hr (show 0 < 120 by omega) h c; omega
theorem uC_cc {kn : Nat} {ks zs : Nat → Nat} {ps : Nat → Int32} {R : Nat → Fo} (hS : s_ok kn ks zs ps) (hk : kn ≤ 24) (hT : IT kn ks ps R) {r : Nat} (hr : r < 120) (c : Nat) : f_cc ks zs c (R r) (8 * r, false) ≤ uC ks R r c := by
  have h1 := f_cc_le hS hk c (R r) (8 * r, false) (hT r hr).2
  have h2 := f_ext8 hS (hT r hr).2 (hT r hr).1
  have h3 := c_inl_mo (c := c) (a := 8 * r) h2
  unfold uC
  dsimp only at h1
  omega
theorem c_inl_1 {c a z : Nat} (h : a ≤ c ∧ c < a + z) : c_inl c a z = 1 := if_pos h
/-- a place: its own cells are no others' -/
theorem plC {kn : Nat} {ks zs : Nat → Nat} {ps : Nat → Int32} {ce : Nat → Int64} {bt rt rl : Nat → Nat} {nb nr : Nat} {R : Nat → Fo} (hS : s_ok kn ks zs ps) (hk : kn ≤ 24) (hT : IT kn ks ps R) (hC : IC1 ks zs ce bt rt rl nb nr R) {r : Nat} (hr : r < 120) {p : List Bool} {s : Nat} {k : Nat × Nat} {v : Int64} {K N : Fo} (h : b_at (R r) p = .inner s k v K N) (c : Nat) :
    c_inl c (b_ad ks zs (R r) p (8 * r, false)).1 (zs s) + (c_bo ks c s k + c_blk ks c K) ≤ uC ks R r c ∧ (0 < c_inl c (b_ad ks zs (R r) p (8 * r, false)).1 (zs s) + (c_bo ks c s k + c_blk ks c K) → f_cc ks zs c (R r) (8 * r, false) ≤ f_cc ks zs c (.inner s k v K .leaf) (b_ad ks zs (R r) p (8 * r, false))) := by
  obtain ⟨e1, e2⟩ := fb_cc hS hk c p (R r) (8 * r, false) (hT r hr).2 h
  have h2 := f_ext8 hS (hT r hr).2 (hT r hr).1
  have h3 := c_inl_mo (c := c) (a := 8 * r) h2
  have h4 := uC_one hS hT hC hr c
  unfold uC at h4 ⊢
  dsimp only at e1
  exact ⟨by omega, fun h5 => by omega⟩
theorem b_ad_ge {ks zs : Nat → Nat} : ∀ (p : List Bool) (F : Fo) (q : Nat × Bool), 192 ≤ q.1 → 192 ≤ (b_ad ks zs F p q).1
  | [], F, q, h => by cases F <;> exact h
  | _ :: _, .leaf, q, h => h
  | true :: p, .inner s k v K N, q, h => by
    refine b_ad_ge p K _ ?_
    dsimp only
    unfold f_ka
    split
    · omega
    · split
      · omega
      · split <;> omega
  | false :: p, .inner s k v K N, q, h => b_ad_ge p N _ (by dsimp only; omega)
/-- blocks of a tree -/
theorem blk4 {ks : Nat → Nat} {F : Fo} {j i : Nat} (h : 0 < f_cb ks 4 j F) (hi : i < 8) : 0 < c_blk ks (960 + j * 8 + i) F := by
  rw [c_blk_eq, if_pos (by omega), show (960 + j * 8 + i - 960) / 8 = j by omega]; omega
theorem blk5 {ks : Nat → Nat} {F : Fo} {j i : Nat} (h : 0 < f_cb ks 5 j F) (hi : i < 64) : 0 < c_blk ks (1440 + j * 64 + i) F := by
  rw [c_blk_eq, if_pos (show 1440 ≤ 1440 + j * 64 + i by omega), show (1440 + j * 64 + i - 1440) / 64 = j by omega]; omega
/-- the kid i of K replaced, reference -/
theorem fb_Rf {so ki ki2 : Nat → Nat} {nu nu2 : Nat → Int64} {k' : Nat × Nat} {v' : Int64} {K' : Fo} {s : Nat} {k : Nat × Nat} {v : Int64} {K N : Fo} (h1 : f_okR so ki2 nu2 (.inner s k' v' K' .leaf)) : ∀ (i : Nat) (F : Fo), b_at F (List.replicate i false) = .inner s k v K N → f_okR so ki nu F → (∀ z, f_cx z (.inner s k v K .leaf) < f_cx z F → nu2 z = nu z ∧ ∀ t, t < 8 → ki2 (8 * z + t) = ki (8 * z + t)) → f_okR so ki2 nu2 (b_set k' v' K' F (List.replicate i false))
  | 0, .leaf, h, _, _ => by simp [b_at] at h
  | i + 1, .leaf, h, _, _ => by simp [b_at, List.replicate] at h
  | 0, .inner s0 k0 v0 K0 N0, h, hR, hz => by
    simp only [List.replicate, b_at, Std.DTreeMap.Internal.Impl.inner.injEq] at h
    obtain ⟨rfl, rfl, h3, rfl, rfl⟩ := h
    exact ⟨h1.1, h1.2.1, f_okR_kp hR.2.2 (fun z hh => ⟨rfl, hz z (by simp only [f_cx]; omega)⟩)⟩
  | i + 1, .inner s0 k0 v0 K0 N0, h, hR, hz => by
    simp only [List.replicate, b_at] at h
    have hle := fun z => fb_Ale (fA_cx z) (List.replicate i false) N0 h
    have h0 := hz k0.1 (by have := hle k0.1; simp only [f_cx, if_true] at this ⊢; omega)
    simp only [List.replicate, b_set]
    exact ⟨⟨hR.1.1, by rw [h0.1]; exact hR.1.2.1, fun t ht => by rw [h0.2 t ht, hR.1.2.2 t ht]⟩, f_okR_kp hR.2.1 (fun z hh => ⟨rfl, hz z (by have := hle z; simp only [f_cx] at this ⊢; omega)⟩), fb_Rf h1 i N0 h hR.2.2 (fun z hh => hz z (by simp only [f_cx] at hh ⊢; omega))⟩
/-- the tree at a place replaced by another root's, reference -/
theorem IR_set {so ki ki1 ki2 : Nat → Nat} {nu : Nat → Int64} {no sp : Nat} {R : Nat → Fo} {fl : List Nat} (h : IR1 so ki nu no sp R fl) {r b : Nat} (hr : r < 120) (hb : b < 120) (hrb : r ≠ b) {p : List Bool} {s x j x1 j1 : Nat} {v v1 : Int64} {K N K1 : Fo} (hp : b_at (R r) p = .inner s (x, j) v K N) (h1 : R b = .inner s (x1, j1) v1 K1 .leaf) (hN : p = [] → N = .leaf)
    (hk1 : ∀ z, f_cx z (.inner s (x, j) v K .leaf) = 0 → ∀ t, t < 8 → ki1 (8 * z + t) = ki (8 * z + t)) (hk2 : (p = [] ∧ ki2 = ki1) ∨ ∃ p2 i s2 x2 j2 v2 K2 N2, p = p2 ++ true :: List.replicate i false ∧ b_at (R r) p2 = .inner s2 (x2, j2) v2 K2 N2 ∧ i < 8 ∧ ki2 = upN ki1 (8 * x2 + i) x1) :
    f_okR so ki2 nu (b_set (x1, j1) v1 K1 (R r) p) ∧ ∀ a, a < 120 → a ≠ r → f_okR so ki2 nu (R a) := by
  have hle := fun z => fb_Ale (fA_cx z) p (R r) hp
  have hu := h.2.1
  have hR := h.1
  rcases hk2 with ⟨rfl, rfl⟩ | ⟨p2, i, s2, x2, j2, v2, K2, N2, rfl, hp2, hi8, rfl⟩
  · obtain rfl := hN rfl
    have hRr : R r = .inner s (x, j) v K .leaf := by simpa only [b_at] using hp
    have hoth : ∀ a, a < 120 → a ≠ r → f_okR so ki2 nu (R a) := fun a ha har => f_okR_kp (hR a ha) (fun z hz => ⟨rfl, rfl, hk1 z (by
      have e1 := rF_two (f_cx z) R ha hr har
      have e2 := hu z
      rw [hRr] at e1
      omega)⟩)
    refine ⟨?_, hoth⟩
    have := hoth b hb (Ne.symm hrb)
    rw [h1] at this
    rw [hRr]
    exact this
  · have hle2 := fun z => fb_Ale (fA_cx z) p2 (R r) hp2
    have hpk : b_at K2 (List.replicate i false) = .inner s (x, j) v K N := by
      rw [b_at_app, hp2] at hp; exact hp
    have hle3 := fun z => fb_Ale (fA_cx z) (List.replicate i false) K2 hpk
    have hcx : ∀ z, f_cx z (.inner s (x, j) v K .leaf) = (if x = z then 1 else 0) + f_cx z K + 0 := fun z => rfl
    have hge := fun z => rF_ge (f_cx z) R hr
    have hx2 : f_cx x2 (.inner s (x, j) v K .leaf) = 0 ∧ f_cx x2 K2 = 0 := by
      have e1 := hle2 x2
      have e2 := hle3 x2
      have e3 := hge x2
      have e4 := hu x2
      have e5 := hcx x2
      simp only [if_true] at e1 e2
      omega
    have hki : ∀ z, f_cx z (.inner s (x, j) v K .leaf) = 0 → z ≠ x2 → ∀ t, t < 8 → upN ki1 (8 * x2 + i) x1 (8 * z + t) = ki (8 * z + t) := fun z hz hz2 t ht => by
      rw [upN_n _ _ (by omega)]; exact hk1 z hz t ht
    have hoth : ∀ a, a < 120 → a ≠ r → f_okR so (upN ki1 (8 * x2 + i) x1) nu (R a) := fun a ha har => f_okR_kp (hR a ha) (fun z hz => ⟨rfl, rfl, by
      have e1 := rF_two (f_cx z) R ha hr har
      have e2 := hu z
      have e3 := hle z
      have e5 := hcx z
      have e6 := hle2 z
      dsimp only at e3 e6
      refine hki z (by omega) (fun e => ?_)
      subst e
      simp only [if_true] at e6
      omega⟩)
    refine ⟨?_, hoth⟩
    have hb1 := hoth b hb (Ne.symm hrb)
    rw [h1] at hb1
    rw [b_set_app _ _ _ hp2]
    have hR2 := fb_Rat p2 _ (hR r hr)
    rw [hp2] at hR2
    have hkd := kd_set (k' := (x1, j1)) (v' := v1) (K' := K1) i K2 hpk
    refine fb_R (k := (x2, j2)) ⟨hR2.1.1, hR2.1.2.1, fun t ht => ?_⟩ (fb_Rf hb1 i K2 hpk hR2.2.1 (fun z hz => ⟨rfl, ?_⟩)) p2 _ hp2 (hR r hr) (fun z hz => ⟨rfl, ?_⟩)
    · rw [hkd.2.2.2 t]
      by_cases e : t = i
      · subst e; rw [upN_s, if_pos rfl]
      · rw [upN_n _ _ (by dsimp only; omega), if_neg e, hk1 _ hx2.1 t ht]; exact hR2.1.2.2 t ht
    · have e1 := hle2 z
      have e3 := hge z
      have e4 := hu z
      dsimp only at e1
      refine hki z (by omega) (fun e => ?_)
      subst e
      omega
    · have e1 := hle3 z
      have e3 := hge z
      have e4 := hu z
      have e5 := hcx z
      have e6 : f_cx z (.inner s2 (x2, j2) v2 K2 .leaf) = (if x2 = z then 1 else 0) + f_cx z K2 + 0 := rfl
      dsimp only at e1
      refine hki z (by omega) (fun e => ?_)
      subst e
      rw [if_pos rfl] at e6
      omega
