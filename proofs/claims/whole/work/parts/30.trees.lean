/-! Ghost trees: a forest is a leaf, or a first tree (shape s, node x and box or row id j, number v, its kids K) and the rest N. (A binary tree out of Std serves as the type.) -/
abbrev Fo : Type := Std.DTreeMap.Internal.Impl (Nat × Nat) (fun _ => Int64)
def f_len : Fo → Nat
  | .leaf => 0
  | .inner _ _ _ _ N => f_len N + 1
/-- how many nodes -/
def f_sz : Fo → Nat
  | .leaf => 0
  | .inner _ _ _ K N => 1 + f_sz K + f_sz N
/-- the node of tree i, 0 if there is none -/
def f_rt : Fo → Nat → Nat
  | .leaf, _ => 0
  | .inner _ k _ _ _, 0 => k.1
  | .inner _ _ _ _ N, i + 1 => f_rt N i
/-- the shape of tree i -/
def f_sh : Fo → Nat → Nat
  | .leaf, _ => 0
  | .inner s _ _ _ _, 0 => s
  | .inner _ _ _ _ N, i + 1 => f_sh N i
def f_v : Fo → Int64
  | .leaf => 0
  | .inner _ _ v _ _ => v
/-- how often a node number stands in it -/
def f_cx (z : Nat) : Fo → Nat
  | .leaf => 0
  | .inner _ k _ K N => (if k.1 = z then 1 else 0) + f_cx z K + f_cx z N
/-- how often a box id (kind 4), a row id (kind 5) -/
def f_cb (ks : Nat → Nat) (q z : Nat) : Fo → Nat
  | .leaf => 0
  | .inner s k _ K N => (if ks s = q ∧ k.2 = z then 1 else 0) + f_cb ks q z K + f_cb ks q z N
/-- how many nodes of kind q -/
def f_nk (ks : Nat → Nat) (q : Nat) : Fo → Nat
  | .leaf => 0
  | .inner s _ _ K N => (if ks s = q then 1 else 0) + f_nk ks q K + f_nk ks q N
/-- what is told when it is dropped -/
def f_tl (ks : Nat → Nat) : Fo → List Int64
  | .leaf => []
  | .inner s _ _ K N => (if ks s = 2 then [f_v K] else []) ++ (f_tl ks K ++ f_tl ks N)
/-- shapes: fields of a record -/
def s_np (ps : Nat → Int32) (s : Nat) : Nat := if ps (s * 3 + 1) = mI then 1 else if ps (s * 3 + 2) = mI then 2 else 3
/-- a node's kids have the shapes that its own asks for -/
def f_ty (ks : Nat → Nat) (ps : Nat → Int32) (s : Nat) (v : Int64) (K : Fo) : Prop :=
  (ks s = 0 ∧ K = .leaf) ∨
  ((ks s = 1 ∨ ks s = 2) ∧ f_len K = s_np ps s ∧ ∀ i, i < f_len K → ps (s * 3 + i) = nI (f_sh K i)) ∨
  (ks s = 3 ∧ ∃ t, t < 3 ∧ v = lN t ∧ ((ps (s * 3 + t) = mI ∧ K = .leaf) ∨ (f_len K = 1 ∧ ps (s * 3 + t) = nI (f_sh K 0)))) ∨
  (ks s = 4 ∧ f_len K = 1 ∧ ps (s * 3 + 0) = nI (f_sh K 0)) ∨
  (ks s = 5 ∧ v = lN (f_len K) ∧ f_len K ≤ 8 ∧ ∀ i, i < f_len K → ps (s * 3 + 0) = nI (f_sh K i))
def f_okT (kn : Nat) (ks : Nat → Nat) (ps : Nat → Int32) : Fo → Prop
  | .leaf => True
  | .inner s _ v K N => s < kn ∧ f_ty ks ps s v K ∧ f_okT kn ks ps K ∧ f_okT kn ks ps N
/-- where the class has it: from cell a on, one behind another (w false) or every 8 cells (w true) -/
def f_okC (ks zs : Nat → Nat) (ce : Nat → Int64) (rl : Nat → Nat) : Fo → Nat → Bool → Prop
  | .leaf, _, _ => True
  | .inner s k v K N, a, w =>
    ((ks s = 0 → ce a = v) ∧ (ks s = 1 ∨ ks s = 2 → f_okC ks zs ce rl K a false) ∧ (ks s = 3 → ce a = v ∧ f_okC ks zs ce rl K (a + 1) false) ∧ (ks s = 4 → ce a = lN k.2 ∧ k.2 < 60 ∧ f_okC ks zs ce rl K (960 + k.2 * 8) false) ∧ (ks s = 5 → ce a = lN k.2 ∧ k.2 < 20 ∧ rl k.2 = f_len K ∧ f_okC ks zs ce rl K (1440 + k.2 * 64) true)) ∧
    f_okC ks zs ce rl N (a + if w then 8 else zs s) w
/-- where the reference has it -/
def f_okR (so ki : Nat → Nat) (nu : Nat → Int64) : Fo → Prop
  | .leaf => True
  | .inner s k v K N => (so k.1 = s ∧ nu k.1 = v ∧ ∀ i, i < 8 → ki (8 * k.1 + i) = f_rt K i) ∧ f_okR so ki nu K ∧ f_okR so ki nu N
/-- cells that it takes in line -/
def f_ext (zs : Nat → Nat) : Fo → Bool → Nat
  | .leaf, _ => 0
  | .inner s _ _ _ N, w => (if w then 8 else zs s) + f_ext zs N w
/-- the size of a part, 0 where there is none -/
def s_zp (zs : Nat → Nat) (ps : Nat → Int32) (q : Nat) : Nat := if ps q = mI then 0 else zs (ps q).toNatClampNeg
/-- the shapes' table -/
def s_ok (kn : Nat) (ks zs : Nat → Nat) (ps : Nat → Int32) : Prop :=
  (0 < kn ∧ ks 0 = 0 ∧ ∀ s, s < kn → ks s = 0 → s = 0) ∧ ∀ s, s < kn → ks s ≤ 5 ∧ 1 ≤ zs s ∧ zs s ≤ 8 ∧ (∀ i, i < 3 → ps (s * 3 + i) = mI ∨ ∃ p, p < kn ∧ ps (s * 3 + i) = nI p) ∧
    (ks s = 0 ∨ ks s = 4 ∨ ks s = 5 → zs s = 1) ∧
    (ks s = 1 ∨ ks s = 2 → (∃ p, p < s ∧ ps (s * 3 + 0) = nI p) ∧ (ps (s * 3 + 1) = mI → ps (s * 3 + 2) = mI) ∧ zs s = s_zp zs ps (s * 3 + 0) + s_zp zs ps (s * 3 + 1) + s_zp zs ps (s * 3 + 2) ∧ ∀ i p, i < 3 → p < kn → ps (s * 3 + i) = nI p → p < s) ∧
    (ks s = 2 → ps (s * 3 + 0) = nI 0) ∧
    (ks s = 3 → ∀ i p, i < 3 → p < kn → ps (s * 3 + i) = nI p → zs p + 1 ≤ zs s ∧ p < s) ∧
    (ks s = 5 → ∃ p, p < s ∧ ps (s * 3 + 0) = nI p)
