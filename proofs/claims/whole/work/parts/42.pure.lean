/-! Sums over trees, rows of trees, roots cleared and spread. -/
def fA (f : Fo → Nat) (φ : Nat → Nat × Nat → Nat) : Prop := f .leaf = 0 ∧ ∀ s k v K N, f (.inner s k v K N) = φ s k + f K + f N
theorem fA_sz : fA f_sz (fun _ _ => 1) := ⟨rfl, fun _ _ _ _ _ => rfl⟩
theorem fA_cx (z : Nat) : fA (f_cx z) (fun _ k => if k.1 = z then 1 else 0) := ⟨rfl, fun _ _ _ _ _ => rfl⟩
theorem fA_cb (ks : Nat → Nat) (q z : Nat) : fA (f_cb ks q z) (fun s k => if ks s = q ∧ k.2 = z then 1 else 0) := ⟨rfl, fun _ _ _ _ _ => rfl⟩
theorem fA_nk (ks : Nat → Nat) (q : Nat) : fA (f_nk ks q) (fun s _ => if ks s = q then 1 else 0) := ⟨rfl, fun _ _ _ _ _ => rfl⟩
def f_app : Fo → Fo → Fo
  | .leaf, G => G
  | .inner s k v K N, G => .inner s k v K (f_app N G)
theorem f_app_A {f : Fo → Nat} {φ : Nat → Nat × Nat → Nat} (h : fA f φ) : ∀ F G : Fo, f (f_app F G) = f F + f G
  | .leaf, G => by simp only [f_app, h.1, Nat.zero_add]
  | .inner s k v K N, G => by simp only [f_app, h.2, f_app_A h N G]; omega
theorem f_app_len : ∀ F G : Fo, f_len (f_app F G) = f_len F + f_len G
  | .leaf, G => by simp only [f_app, f_len, Nat.zero_add]
  | .inner s k v K N, G => by simp only [f_app, f_len, f_app_len N G]; omega
theorem f_app_0 : ∀ F : Fo, f_app F .leaf = F
  | .leaf => rfl
  | .inner s k v K N => by simp only [f_app, f_app_0 N]
theorem f_app_T {kn : Nat} {ks : Nat → Nat} {ps : Nat → Int32} : ∀ F G : Fo, f_okT kn ks ps (f_app F G) ↔ f_okT kn ks ps F ∧ f_okT kn ks ps G
  | .leaf, G => by simp only [f_app, f_okT, true_and]
  | .inner s k v K N, G => by simp only [f_app, f_okT, f_app_T N G, and_assoc]
theorem f_app_R {so ki : Nat → Nat} {nu : Nat → Int64} : ∀ F G : Fo, f_okR so ki nu (f_app F G) ↔ f_okR so ki nu F ∧ f_okR so ki nu G
  | .leaf, G => by simp only [f_app, f_okR, true_and]
  | .inner s k v K N, G => by simp only [f_app, f_okR, f_app_R N G, and_assoc]
theorem f_app_C {ks zs : Nat → Nat} {ce : Nat → Int64} {rl : Nat → Nat} : ∀ (F G : Fo) (a : Nat) (w : Bool), f_okC ks zs ce rl (f_app F G) a w ↔ f_okC ks zs ce rl F a w ∧ f_okC ks zs ce rl G (a + f_ext zs F w) w
  | .leaf, G, a, w => by simp only [f_app, f_okC, true_and, f_ext, Nat.add_zero]
  | .inner s k v K N, G, a, w => by simp only [f_app, f_okC, f_app_C N G, and_assoc, f_ext, Nat.add_assoc]
theorem f_app_sh : ∀ (F G : Fo) (i : Nat), f_sh (f_app F G) i = if i < f_len F then f_sh F i else f_sh G (i - f_len F)
  | .leaf, G, i => by simp [f_app, f_len]
  | .inner s k v K N, G, 0 => by simp [f_app, f_len, f_sh]
  | .inner s k v K N, G, i + 1 => by simp only [f_app, f_len, f_sh, f_app_sh N G i, Nat.add_lt_add_iff_right, Nat.add_sub_add_right]
theorem f_app_rt : ∀ (F G : Fo) (i : Nat), f_rt (f_app F G) i = if i < f_len F then f_rt F i else f_rt G (i - f_len F)
  | .leaf, G, i => by simp [f_app, f_len]
  | .inner s k v K N, G, 0 => by simp [f_app, f_len, f_rt]
  | .inner s k v K N, G, i + 1 => by simp only [f_app, f_len, f_rt, f_app_rt N G i, Nat.add_lt_add_iff_right, Nat.add_sub_add_right]
/-- roots b .. b + n - 1, in a row -/
def f_row (R : Nat → Fo) : Nat → Nat → Fo
  | _, 0 => .leaf
  | b, n + 1 => f_app (R b) (f_row R (b + 1) n)
def f_clr (R : Nat → Fo) (b n : Nat) : Nat → Fo := fun r => if b ≤ r ∧ r < b + n then .leaf else R r
theorem f_clr_0 (R : Nat → Fo) (b : Nat) : f_clr R b 0 = R := by
  funext r
  unfold f_clr
  rw [if_neg (by omega)]
theorem f_clr_s (R : Nat → Fo) (b n : Nat) : f_clr R b (n + 1) = upN (f_clr R (b + 1) n) b .leaf := by
  funext r
  unfold f_clr upN
  by_cases h : r = b
  · rw [if_pos (by omega), if_pos h]
  · rw [if_neg h]
    show _ = if b + 1 ≤ r ∧ r < b + 1 + n then Std.DTreeMap.Internal.Impl.leaf else R r
    by_cases h2 : b ≤ r ∧ r < b + (n + 1)
    · rw [if_pos h2, if_pos (by omega)]
    · rw [if_neg h2, if_neg (by omega)]
theorem rF_clr {f : Fo → Nat} {φ : Nat → Nat × Nat → Nat} (h : fA f φ) (R : Nat → Fo) : ∀ (n b : Nat), b + n ≤ 120 → rF f (f_clr R b n) + f (f_row R b n) = rF f R
  | 0, b, _ => by rw [f_clr_0]; simp only [f_row, h.1, Nat.add_zero]
  | n + 1, b, hb => by
    have h1 := rF_clr h R n (b + 1) (by omega)
    have h2 := rF_up f (f_clr R (b + 1) n) b .leaf (by omega)
    have h3 : f_clr R (b + 1) n b = R b := by unfold f_clr; rw [if_neg (by omega)]
    rw [h3, h.1] at h2
    rw [f_clr_s]
    simp only [f_row, f_app_A h]
    omega
/-- n roots from b on taken into one new tree at b -/
def f_wrp (R : Nat → Fo) (b n s : Nat) (k : Nat × Nat) (v : Int64) : Nat → Fo := upN (f_clr R b n) b (.inner s k v (f_row R b n) .leaf)
theorem rF_wrp {f : Fo → Nat} {φ : Nat → Nat × Nat → Nat} (h : fA f φ) (R : Nat → Fo) {b n s : Nat} {k : Nat × Nat} {v : Int64} (hb : b + n ≤ 120) (hb2 : b < 120) (h0 : f_clr R b n b = .leaf) : rF f (f_wrp R b n s k v) = rF f R + φ s k := by
  have h1 := rF_clr h R n b hb
  have h2 := rF_up f (f_clr R b n) b (.inner s k v (f_row R b n) .leaf) hb2
  rw [h0, h.1, h.2, h.1] at h2
  unfold f_wrp
  omega
/-- trees of K laid on the roots from b on -/
def f_spr (R : Nat → Fo) : Fo → Nat → Nat → Fo
  | .leaf, _ => R
  | .inner s k v K N, b => upN (f_spr R N (b + 1)) b (.inner s k v K .leaf)
theorem f_spr_n (R : Nat → Fo) : ∀ (K : Fo) (b r : Nat), (r < b ∨ b + f_len K ≤ r) → f_spr R K b r = R r
  | .leaf, b, r, _ => rfl
  | .inner s k v K N, b, r, h => by
    simp only [f_len] at h
    simp only [f_spr]
    rw [upN_n _ _ (by omega)]
    exact f_spr_n R N (b + 1) r (by omega)
theorem rF_spr {f : Fo → Nat} {φ : Nat → Nat × Nat → Nat} (h : fA f φ) (R : Nat → Fo) : ∀ (K : Fo) (b : Nat), b + f_len K ≤ 120 → (∀ r, b ≤ r → r < b + f_len K → R r = .leaf) → rF f (f_spr R K b) = rF f R + f K
  | .leaf, b, _, _ => by simp only [f_spr, h.1, Nat.add_zero]
  | .inner s k v K N, b, hb, hl => by
    simp only [f_len] at hb hl
    have h1 := rF_spr h R N (b + 1) (by omega) (fun r h1 h2 => hl r (by omega) (by omega))
    have h2 := rF_up f (f_spr R N (b + 1)) b (.inner s k v K .leaf) (by omega)
    rw [f_spr_n R N (b + 1) b (by omega), hl b (by omega) (by omega), h.1, h.2, h.1] at h2
    simp only [f_spr, h.2]
    omega
/-- root a moved to root b -/
def mvR (R : Nat → Fo) (a b : Nat) : Nat → Fo := upN (upN R b (R a)) a .leaf
theorem rF_mv {f : Fo → Nat} {φ : Nat → Nat × Nat → Nat} (h : fA f φ) (R : Nat → Fo) {a b : Nat} (ha : a < 120) (hb : b < 120) (hab : a ≠ b) (h0 : R b = .leaf) : rF f (mvR R a b) = rF f R := by
  have h1 := rF_up f R b (R a) hb
  have h2 := rF_up f (upN R b (R a)) a .leaf ha
  rw [upN_n _ _ hab, h.1] at h2
  rw [h0, h.1] at h1
  unfold mvR
  omega
theorem rF_drp {f : Fo → Nat} {φ : Nat → Nat × Nat → Nat} (h : fA f φ) (R : Nat → Fo) {a : Nat} (ha : a < 120) : rF f (upN R a .leaf) = rF f R - f (R a) := by
  have h2 := rF_up f R a .leaf ha
  rw [h.1] at h2
  omega
theorem IT_up {kn : Nat} {ks : Nat → Nat} {ps : Nat → Int32} {R : Nat → Fo} (h : IT kn ks ps R) {r : Nat} {F : Fo} (h1 : f_len F ≤ 1) (h2 : f_okT kn ks ps F) : IT kn ks ps (upN R r F) := by
  intro k hk
  by_cases e : k = r
  · subst e; rw [upN_s]; exact ⟨h1, h2⟩
  · rw [upN_n _ _ e]; exact h k hk
theorem IT_lf {kn : Nat} {ks : Nat → Nat} {ps : Nat → Int32} {R : Nat → Fo} (h : IT kn ks ps R) (r : Nat) : IT kn ks ps (upN R r .leaf) := IT_up h (by simp [f_len]) trivial
theorem IT_mv {kn : Nat} {ks : Nat → Nat} {ps : Nat → Int32} {R : Nat → Fo} (h : IT kn ks ps R) {a b : Nat} (ha : a < 120) : IT kn ks ps (mvR R a b) := IT_lf (IT_up h (h a ha).1 (h a ha).2) _
/-- a value is dropped, class -/
theorem IC1_drop {ks zs : Nat → Nat} {ce : Nat → Int64} {bt rt rl : Nat → Nat} {nb nr : Nat} {R : Nat → Fo} (h : IC1 ks zs ce bt rt rl nb nr R) {r : Nat} (hr : r < 120) : IC1 ks zs ce (fun j => bt j - f_cb ks 4 j (R r)) (fun j => rt j - f_cb ks 5 j (R r)) rl (nb - f_nk ks 4 (R r)) (nr - f_nk ks 5 (R r)) (upN R r .leaf) := by
  obtain ⟨h1, h2, h3, h4, h5⟩ := h
  refine ⟨fun k hk => ?_, fun j => ?_, fun j => ?_, ?_, ?_⟩
  · by_cases e : k = r
    · subst e; rw [upN_s]; trivial
    · rw [upN_n _ _ e]; exact h1 k hk
  · rw [rF_drp (fA_cb ks 4 j) R hr, ← (h2 j).1]; exact ⟨rfl, by have := (h2 j).2; dsimp only; omega⟩
  · rw [rF_drp (fA_cb ks 5 j) R hr, ← (h3 j).1]; exact ⟨rfl, by have := (h3 j).2; dsimp only; omega⟩
  · rw [rF_drp (fA_nk ks 4) R hr, ← h4]
  · rw [rF_drp (fA_nk ks 5) R hr, ← h5]
theorem f_okR_kp {so so2 ki ki2 : Nat → Nat} {nu nu2 : Nat → Int64} : ∀ {F : Fo}, f_okR so ki nu F → (∀ z, 0 < f_cx z F → so2 z = so z ∧ nu2 z = nu z ∧ ∀ i, i < 8 → ki2 (8 * z + i) = ki (8 * z + i)) → f_okR so2 ki2 nu2 F
  | .leaf, _, _ => trivial
  | .inner s k v K N, h, hk => by
    obtain ⟨⟨h1, h2, h3⟩, h4, h5⟩ := h
    obtain ⟨g1, g2, g3⟩ := hk k.1 (by simp only [f_cx, if_true]; omega)
    refine ⟨⟨by rw [g1, h1], by rw [g2, h2], fun i hi => ?_⟩, f_okR_kp h4 (fun z hz => hk z (by simp only [f_cx]; omega)), f_okR_kp h5 (fun z hz => hk z (by simp only [f_cx]; omega))⟩
    rw [g3 i hi, h3 i hi]
/-- a value is dropped, reference -/
theorem IR1_drop {so ki ki2 : Nat → Nat} {nu : Nat → Int64} {no sp sp2 : Nat} {R : Nat → Fo} {fl fl2 : List Nat} (h : IR1 so ki nu no sp R fl) {r : Nat} (hr : r < 120) (hfr : fr_ok ki2 sp2 fl2) (hc : ∀ z, fl2.count z = fl.count z + f_cx z (R r)) (hk : ∀ z, f_cx z (R r) = 0 → ∀ i, i < 8 → ki2 (8 * z + i) = ki (8 * z + i)) : IR1 so ki2 nu no sp2 (upN R r .leaf) fl2 := by
  obtain ⟨h1, h2, h3, -⟩ := h
  have hd : ∀ z, rF (f_cx z) (upN R r .leaf) + fl2.count z = rF (f_cx z) R + fl.count z := fun z => by
    have e1 := rF_drp (fA_cx z) R hr
    have e2 := rF_ge (f_cx z) R hr
    have e3 := hc z
    omega
  refine ⟨fun k hk' => ?_, fun z => by rw [hd]; exact h2 z, fun z hz => h3 z (by rw [← hd]; exact hz), hfr⟩
  by_cases e : k = r
  · subst e; rw [upN_s]; trivial
  · rw [upN_n _ _ e]
    refine f_okR_keep (h1 k hk') (fun z hz => hk z ?_)
    have := rF_two (f_cx z) R hk' hr e
    have := h2 z
    omega
/-- the shapes' table of the reference -/
theorem f_okT_ko {kn : Nat} {ks : Nat → Nat} {ps ko : Nat → Int32} (h : ∀ i, i < 3 * kn → ko i = ps i) : ∀ {F : Fo}, f_okT kn ks ps F → f_okT kn ks ko F
  | .leaf, _ => trivial
  | .inner s k v K N, hF => by
    obtain ⟨h1, h2, h3, h4⟩ := hF
    refine ⟨h1, ?_, f_okT_ko h h3, f_okT_ko h h4⟩
    have e : ∀ i, i < 3 → ko (s * 3 + i) = ps (s * 3 + i) := fun i hi => h _ (by omega)
    have enp : s_np ko s = s_np ps s := by simp only [s_np, e 1 (by omega), e 2 (by omega)]
    have np3 : s_np ps s ≤ 3 := by unfold s_np; split; omega; split <;> omega
    rcases h2 with q | ⟨q1, q2, q3⟩ | ⟨q1, t, q2, q3, q4⟩ | ⟨q1, q2, q3⟩ | ⟨q1, q2, q3, q4⟩
    · exact Or.inl q
    · exact Or.inr (Or.inl ⟨q1, by rw [q2, enp], fun i hi => by rw [e i (by omega), q3 i hi]⟩)
    · exact Or.inr (Or.inr (Or.inl ⟨q1, t, q2, q3, by rw [e t q2]; exact q4⟩))
    · exact Or.inr (Or.inr (Or.inr (Or.inl ⟨q1, q2, by rw [e 0 (by omega)]; exact q3⟩)))
    · exact Or.inr (Or.inr (Or.inr (Or.inr ⟨q1, q2, q3, fun i hi => by rw [e 0 (by omega)]; exact q4 i hi⟩)))
/-- n roots wrapped into one new node, reference -/
theorem IR1_wrp {so so2 ki ki2 : Nat → Nat} {nu nu2 : Nat → Int64} {no no2 sp sp2 : Nat} {R : Nat → Fo} {fl fl2 : List Nat} (h : IR1 so ki nu no sp R fl) {b n s x j : Nat} {v : Int64} (hb : b + n ≤ 120) (hb2 : b < 120) (h0 : f_clr R b n b = .leaf) (hx : rF (f_cx x) R = 0 ∧ fl2.count x = 0 ∧ 1 ≤ x ∧ x < no2) (hno : no ≤ no2) (hs : so2 x = s ∧ nu2 x = v ∧ ∀ i, i < 8 → ki2 (8 * x + i) = f_rt (f_row R b n) i) (hk : ∀ z, z ≠ x → z < no → so2 z = so z ∧ nu2 z = nu z ∧ ∀ i, i < 8 → ki2 (8 * z + i) = ki (8 * z + i)) (hfr : fr_ok ki2 sp2 fl2) (hc : ∀ z, z ≠ x → fl2.count z = fl.count z) : IR1 so2 ki2 nu2 no2 sp2 (f_wrp R b n s (x, j) v) fl2 := by
  obtain ⟨h1, h2, h3, -⟩ := h
  have hd : ∀ z, rF (f_cx z) (f_wrp R b n s (x, j) v) = rF (f_cx z) R + if x = z then 1 else 0 := fun z => rF_wrp (fA_cx z) R hb hb2 h0
  have hkp : ∀ F, f_okR so ki nu F → (∀ z, f_cx z F ≤ rF (f_cx z) R) → f_okR so2 ki2 nu2 F := fun F hF hz => f_okR_kp hF (fun z hz1 => by
    have e1 := hz z
    have e2 := h3 z (by omega)
    exact hk z (fun e => by subst e; have := hx.1; omega) e2.2)
  have hrow : ∀ n b, b + n ≤ 120 → f_okR so ki nu (f_row R b n) := by
    intro n
    induction n with
    | zero => intro b _; trivial
    | succ n ih => intro b hb; exact (f_app_R _ _).mpr ⟨h1 b (by omega), ih (b + 1) (by omega)⟩
  refine ⟨fun k hk' => ?_, fun z => ?_, fun z hz => ?_, hfr⟩
  · unfold f_wrp
    by_cases e : k = b
    · subst e
      rw [upN_s]
      exact ⟨hs, hkp _ (hrow n k hb) (fun z => by have := rF_clr (fA_cx z) R n k hb; omega), trivial⟩
    · rw [upN_n _ _ e]
      unfold f_clr
      split
      · trivial
      · exact hkp _ (h1 k hk') (fun z => rF_ge _ R hk')
  · rw [hd]
    by_cases e : x = z
    · subst e; rw [if_pos rfl]; have := hx.1; have := hx.2.1; omega
    · rw [if_neg e, hc z (Ne.symm e), Nat.add_zero]; exact h2 z
  · rw [hd] at hz
    by_cases e : x = z
    · subst e; exact hx.2.2
    · rw [if_neg e, hc z (Ne.symm e), Nat.add_zero] at hz
      have := h3 z hz
      omega
