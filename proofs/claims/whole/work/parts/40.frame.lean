/-! Moving and framing: a tree's cells are its cells in line, and those of its boxes and rows. -/
theorem f_okC_mv {kn : Nat} {ks zs : Nat → Nat} {ps : Nat → Int32} {ce ce2 : Nat → Int64} {rl rl2 : Nat → Nat} (hS : s_ok kn ks zs ps) (hk : kn ≤ 24) : ∀ (F : Fo) (a b : Nat) (w : Bool), f_okT kn ks ps F → f_okC ks zs ce rl F a w → (∀ i, i < f_ext zs F w → ce2 (b + i) = ce (a + i)) → (∀ j, 0 < f_cb ks 4 j F → ∀ i, i < 8 → ce2 (960 + j * 8 + i) = ce (960 + j * 8 + i)) → (∀ j, 0 < f_cb ks 5 j F → rl2 j = rl j ∧ ∀ i, i < 64 → ce2 (1440 + j * 64 + i) = ce (1440 + j * 64 + i)) → f_okC ks zs ce2 rl2 F b w := by
  intro F
  induction F with
  | leaf => intros; trivial
  | inner s k v K N ihK ihN =>
    intro a b w hT hC hi hB hW
    obtain ⟨t1, t2, t3, t4⟩ := hT
    obtain ⟨⟨c0, c1, c3, c4, c5⟩, cN⟩ := hC
    obtain ⟨hs1, hs2, hs3, -⟩ := hS.2 s t1
    obtain ⟨k1, k3, k4, k5⟩ := f_kids hS hk t1 t2 t3
    simp only [f_ext] at hi
    have hstep : zs s ≤ (if w then 8 else zs s) := by split <;> omega
    have hBK : ∀ j, 0 < f_cb ks 4 j K → ∀ i, i < 8 → ce2 (960 + j * 8 + i) = ce (960 + j * 8 + i) := fun j h => hB j (by simp only [f_cb]; omega)
    have hWK : ∀ j, 0 < f_cb ks 5 j K → rl2 j = rl j ∧ ∀ i, i < 64 → ce2 (1440 + j * 64 + i) = ce (1440 + j * 64 + i) := fun j h => hW j (by simp only [f_cb]; omega)
    have h0 : ce2 b = ce a := by have := hi 0 (by omega); simpa using this
    refine ⟨⟨fun h => by rw [h0]; exact c0 h, fun h => ?_, fun h => ⟨by rw [h0]; exact (c3 h).1, ?_⟩, fun h => ⟨by rw [h0]; exact (c4 h).1, (c4 h).2.1, ?_⟩, fun h => ⟨by rw [h0]; exact (c5 h).1, (c5 h).2.1, ?_, ?_⟩⟩, ?_⟩
    · exact ihK a b false t3 (c1 h) (fun i hh => hi i (by have := k1 h; omega)) hBK hWK
    · exact ihK (a + 1) (b + 1) false t3 (c3 h).2 (fun i hh => by have e := hi (i + 1) (by have := k3 h; omega); rw [show b + 1 + i = b + (i + 1) by omega, show a + 1 + i = a + (i + 1) by omega]; exact e) hBK hWK
    · exact ihK _ _ false t3 (c4 h).2.2 (fun i hh => hB k.2 (by simp only [f_cb, h, true_and, if_true]; omega) i (by have := k4 h; omega)) hBK hWK
    · rw [(hW k.2 (by simp only [f_cb, h, true_and, if_true]; omega)).1]; exact (c5 h).2.2.1
    · exact ihK _ _ true t3 (c5 h).2.2.2 (fun i hh => (hW k.2 (by simp only [f_cb, h, true_and, if_true]; omega)).2 i (by have := k5 h; omega)) hBK hWK
    · refine ihN _ _ w t4 cN (fun i hh => ?_) (fun j h => hB j (by simp only [f_cb]; omega)) (fun j h => hW j (by simp only [f_cb]; omega))
      have e := hi ((if w then 8 else zs s) + i) (by omega)
      rw [Nat.add_assoc, Nat.add_assoc]
      exact e
/-- ids are small -/
theorem f_id {kn : Nat} {ks zs : Nat → Nat} {ps : Nat → Int32} {ce : Nat → Int64} {rl : Nat → Nat} (hS : s_ok kn ks zs ps) : ∀ (F : Fo) (a : Nat) (w : Bool), f_okT kn ks ps F → f_okC ks zs ce rl F a w → (∀ j, 0 < f_cb ks 4 j F → j < 60) ∧ (∀ j, 0 < f_cb ks 5 j F → j < 20) := by
  intro F
  induction F with
  | leaf => intros; exact ⟨fun j h => by simp [f_cb] at h, fun j h => by simp [f_cb] at h⟩
  | inner s k v K N ihK ihN =>
    intro a w hT hC
    obtain ⟨t1, t2, t3, t4⟩ := hT
    obtain ⟨⟨c0, c1, c3, c4, c5⟩, cN⟩ := hC
    obtain ⟨n1', n2'⟩ := ihN _ w t4 cN
    have hK : (∀ j, 0 < f_cb ks 4 j K → j < 60) ∧ (∀ j, 0 < f_cb ks 5 j K → j < 20) := by
      rcases t2 with ⟨h, rfl⟩ | ⟨h, -, -⟩ | ⟨h, -⟩ | ⟨h, -, -⟩ | ⟨h, -⟩
      · exact ⟨fun j h => by simp [f_cb] at h, fun j h => by simp [f_cb] at h⟩
      · exact ihK _ _ t3 (c1 h)
      · exact ihK _ _ t3 (c3 h).2
      · exact ihK _ _ t3 (c4 h).2.2
      · exact ihK _ _ t3 (c5 h).2.2.2
    refine ⟨fun j h => ?_, fun j h => ?_⟩
    · simp only [f_cb] at h
      by_cases e : ks s = 4 ∧ k.2 = j
      · have := (c4 e.1).2.1; omega
      · simp only [e, if_false, Nat.zero_add] at h
        by_cases h2 : 0 < f_cb ks 4 j K
        · exact hK.1 j h2
        · exact n1' j (by omega)
    · simp only [f_cb] at h
      by_cases e : ks s = 5 ∧ k.2 = j
      · have := (c5 e.1).2.1; omega
      · simp only [e, if_false, Nat.zero_add] at h
        by_cases h2 : 0 < f_cb ks 5 j K
        · exact hK.2 j h2
        · exact n2' j (by omega)
/-- a sum over the first n -/
def rs (f : Nat → Nat) : Nat → Nat
  | 0 => 0
  | n + 1 => rs f n + f n
theorem rs_up (f : Nat → Nat) (k x : Nat) : ∀ n, rs (upN f k x) n + (if k < n then f k else 0) = rs f n + (if k < n then x else 0)
  | 0 => by simp [rs]
  | n + 1 => by
    have h := rs_up f k x n
    simp only [rs]
    by_cases hk : k = n
    · subst hk
      rw [upN_s]
      simp only [Nat.lt_irrefl, if_false, Nat.lt_succ_self, if_true] at h ⊢
      omega
    · rw [upN_n _ _ (Ne.symm hk)]
      by_cases h1 : k < n
      · rw [if_pos h1, if_pos h1] at h
        rw [if_pos (by omega), if_pos (by omega)]; omega
      · rw [if_neg h1, if_neg h1] at h
        rw [if_neg (by omega), if_neg (by omega)]; omega
theorem rs_congr {f f2 : Nat → Nat} : ∀ n, (∀ k, k < n → f2 k = f k) → rs f2 n = rs f n
  | 0, _ => rfl
  | n + 1, h => by simp only [rs]; rw [rs_congr n (fun k hk => h k (by omega)), h n (by omega)]
theorem rs_ge (f : Nat → Nat) (k : Nat) : ∀ n, k < n → f k ≤ rs f n
  | 0, h => by omega
  | n + 1, h => by
    simp only [rs]
    by_cases e : k = n
    · subst e; omega
    · have := rs_ge f k n (by omega); omega
theorem rs_two (f : Nat → Nat) (k l : Nat) (hne : k ≠ l) : ∀ n, k < n → l < n → f k + f l ≤ rs f n
  | 0, h, _ => by omega
  | n + 1, h, h2 => by
    simp only [rs]
    by_cases e : k = n
    · have := rs_ge f l n (by omega); subst e; omega
    · by_cases e2 : l = n
      · have := rs_ge f k n (by omega); subst e2; omega
      · have := rs_two f k l hne n (by omega) (by omega); omega
/-- the sum over all roots of a number of their trees -/
def rF (f : Fo → Nat) (R : Nat → Fo) : Nat := rs (fun r => f (R r)) 120
theorem rF_up (f : Fo → Nat) (R : Nat → Fo) (k : Nat) (F : Fo) (hk : k < 120) : rF f (upN R k F) + f (R k) = rF f R + f F := by
  have h := rs_up (fun r => f (R r)) k (f F) 120
  rw [if_pos hk, if_pos hk] at h
  have e : rF f (upN R k F) = rs (upN (fun r => f (R r)) k (f F)) 120 := by
    unfold rF
    apply rs_congr
    intro j _
    simp only [upN]
    split <;> rfl
  rw [e]
  exact h
theorem rF_ge (f : Fo → Nat) (R : Nat → Fo) {k : Nat} (hk : k < 120) : f (R k) ≤ rF f R := rs_ge (fun r => f (R r)) k 120 hk
theorem rF_two (f : Fo → Nat) (R : Nat → Fo) {k l : Nat} (hk : k < 120) (hl : l < 120) (h : k ≠ l) : f (R k) + f (R l) ≤ rF f R := rs_two (fun r => f (R r)) k l h 120 hk hl
