/-! The relation between the class's objects and the reference's tables. -/
/-- the trees: how many nodes; a node's expression; the letters bound at it; whether an @ may stand at it -/
abbrev zTs : Type := Nat × (Nat → Nat) × (Nat → Nat → Prop) × (Nat → Prop)
/-- a run: an env's scope; the letters found from it; a resumption's object; the pool's index of its p-th frame, the lowest first; how many it has; the pool's index of the stack's p-th frame -/
abbrev zGs : Type := (Nat → Nat) × (Nat → Nat → Prop) × (Nat → Nat) × (Nat → Nat → Nat) × (Nat → Nat) × (Nat → Nat)
/-- a run's numbers: frames on the stack, envs, resumptions, finalizers, frames in the pool -/
abbrev zNs : Type := Nat × Nat × Nat × Nat × Nat
abbrev zCt : Type := zG × zI × zI × zTs × zGs × zNs
def sgn (k : Nat) : Int32 := [48, 97, 43, 45, 42, 60, 63, 59, 61, 33, 94, 126, 37, 38, 64, 123].getD k 0
def ari (k : Nat) : Nat := [0, 0, 2, 2, 2, 2, 3, 2, 2, 1, 1, 1, 2, 1, 1, 1].getD k 0
def frk (k : Nat) : Nat := [0, 0, 1, 1, 1, 1, 3, 4, 5, 6, 7, 8, 9, 10, 11, 12].getD k 0
/-- a handler's clauses, as the reference chains them -/
def chC (T : Nat → Int32) : List Nat → Int32 → Prop
  | [], x => x = -9
  | q :: qs, x => x = nI q ∧ chC T qs (T (5 * q + 3))
/-- the clauses of handler n, whose expression is e -/
def HN (b0 n0 : Nat) (g : zG) (f : zI) (T : Nat → Int32) (t : zTs) (n e : Nat) : Prop :=
  (g.2.2.2 e 5 = some (e + 1) ∧ g.2.2.2 e 6 = some (e + 2) ∧ zIn b0 g (e + 1) 14 ∧ zIn b0 g (e + 2) 13 ∧ g.2.2.1 (e + 1) = 7 ∧ g.2.2.1 (e + 2) = 7) ∧
  ∃ qs : List Nat, chC T qs (T (5 * n + 3)) ∧ qs.length ≤ 7 ∧
    (∀ q ∈ qs, n < q ∧ q < t.1 ∧ T (5 * q) = nI 16 ∧ ∃ w b v : Nat, w < 7 ∧ T (5 * q + 4) = nI w ∧ q < b ∧ b < t.1 ∧ T (5 * q + 2) = nI b ∧ ¬ T (5 * b) = nI 16 ∧ v < 26 ∧ T (5 * q + 1) = nI v ∧
      g.2.2.2 (e + 1) w = some (t.2.1 b) ∧ f (e + 2) w = nI v ∧ (∀ y, t.2.2.1 b y → t.2.2.1 n y ∨ y = v) ∧ (t.2.2.2 b → w < 6 ∨ t.2.2.2 n)) ∧
    ∀ w, w < 7 → (∀ q ∈ qs, ¬ T (5 * q + 4) = nI w) → g.2.2.2 (e + 1) w = none
/-- part i of node n of kind k -/
def PN (g : zG) (T : Nat → Int32) (t : zTs) (k n i : Nat) : Prop :=
  (i < ari k → ∃ m, n < m ∧ m < t.1 ∧ T (5 * n + 2 + i) = nI m ∧ ¬ T (5 * m) = nI 16 ∧ g.2.2.2 (t.2.1 n) (2 + i) = some (t.2.1 m) ∧ (∀ y, t.2.2.1 m y → t.2.2.1 n y ∨ (k = 8 ∧ i = 1 ∧ y < 26 ∧ T (5 * n + 1) = nI y)) ∧ (t.2.2.2 m → t.2.2.2 n)) ∧
  (ari k ≤ i → g.2.2.2 (t.2.1 n) (2 + i) = none)
/-- node n, of kind k, and its expression -/
def EN (b0 n0 : Nat) (g : zG) (f : zI) (T : Nat → Int32) (t : zTs) (k n : Nat) : Prop :=
  (n0 ≤ t.2.1 n ∧ zIn b0 g (t.2.1 n) 1 ∧ f (t.2.1 n) 0 = sgn k ∧ (k = 0 ∨ k = 1 ∨ k = 8 ∨ k = 10 ∨ k = 11 ∨ k = 13 → f (t.2.1 n) 1 = T (5 * n + 1))) ∧
  ((k = 1 ∨ k = 8 → ∃ v, v < 26 ∧ T (5 * n + 1) = nI v ∧ (k = 1 → t.2.2.1 n v)) ∧ (k = 10 ∨ k = 11 → ∃ a, a < 6 ∧ T (5 * n + 1) = nI a) ∧ (k = 13 → ∃ p, p < 4 ∧ T (5 * n + 1) = nI p)) ∧
  (∀ i, i < 3 → PN g T t k n i) ∧
  (k = 14 → t.2.2.2 n ∧ ∃ h, h < n ∧ T (5 * n + 4) = nI h ∧ T (5 * h) = nI 15 ∧ g.2.2.2 (t.2.1 n) 7 = some (t.2.1 h)) ∧
  (¬ k = 15 → g.2.2.2 (t.2.1 n) 5 = none ∧ g.2.2.2 (t.2.1 n) 6 = none) ∧ (k = 15 → HN b0 n0 g f T t n (t.2.1 n))
/-- the trees -/
def TR (b0 n0 : Nat) (g : zG) (f : zI) (T : Nat → Int32) (t : zTs) : Prop :=
  t.1 ≤ 65000 ∧ ∀ n, n < t.1 → T (5 * n) = nI 16 ∨ ∃ k, k ≤ 15 ∧ T (5 * n) = nI k ∧ EN b0 n0 g f T t k n
abbrev qg (X : zCt) : zG := X.1
abbrev qf (X : zCt) : zI := X.2.1
abbrev qM (X : zCt) : zI := X.2.2.1
abbrev qt (X : zCt) : zTs := X.2.2.2.1
abbrev nN (X : zCt) : Nat := X.2.2.2.1.1
abbrev nE (X : zCt) : Nat → Nat := X.2.2.2.1.2.1
abbrev bD (X : zCt) : Nat → Nat → Prop := X.2.2.2.1.2.2.1
abbrev rS (X : zCt) : Nat → Prop := X.2.2.2.1.2.2.2
abbrev sG (X : zCt) : Nat → Nat := X.2.2.2.2.1.1
abbrev eL (X : zCt) : Nat → Nat → Prop := X.2.2.2.2.1.2.1
abbrev rG (X : zCt) : Nat → Nat := X.2.2.2.2.1.2.2.1
abbrev cI (X : zCt) : Nat → Nat → Nat := X.2.2.2.2.1.2.2.2.1
abbrev mZ (X : zCt) : Nat → Nat := X.2.2.2.2.1.2.2.2.2.1
abbrev fI (X : zCt) : Nat → Nat := X.2.2.2.2.1.2.2.2.2.2
abbrev nD (X : zCt) : Nat := X.2.2.2.2.2.1
abbrev nV (X : zCt) : Nat := X.2.2.2.2.2.2.1
abbrev nR (X : zCt) : Nat := X.2.2.2.2.2.2.2.1
abbrev nF (X : zCt) : Nat := X.2.2.2.2.2.2.2.2.1
abbrev nP (X : zCt) : Nat := X.2.2.2.2.2.2.2.2.2
/-- an env with a resumption, and a scope -/
def XR (X : zCt) (x y : Int32) (s : Option Nat) : Prop :=
  (x = -9 ∧ y = -9 ∧ s = none) ∨ ∃ e, e < (nV X) ∧ x = nI e ∧ s = some (sG X e) ∧ ((y = -9 ∧ (qg X).2.2.2 (sG X e) 2 = none) ∨ ∃ r, r < (nR X) ∧ y = nI r ∧ 1 ≤ mZ X r ∧ (qg X).2.2.2 (sG X e) 2 = some (rG X r))
/-- what node n asks of an env and a resumption -/
def CV (X : zCt) (n : Nat) (x y : Int32) : Prop := (∀ v, bD X n v → ∃ e, x = nI e ∧ e < (nV X) ∧ eL X e v) ∧ (rS X n → ¬ y = -9)
/-- the pool's frame i, of kind k, and frame x -/
def FK (X : zCt) (k i x : Nat) : Prop :=
  (k ≤ 12 → ∃ n h, n < (nN X) ∧ (qM X) 4 (7 * i + 1) = nI n ∧ (qg X).2.2.2 x 1 = some (nE X n) ∧ h ≤ 15 ∧ (qM X) 1 (5 * n) = nI h ∧ (k = frk h ∨ (k = 2 ∧ 2 ≤ h ∧ h ≤ 5)) ∧
    (¬ k = 2 → XR X ((qM X) 4 (7 * i + 2)) ((qM X) 4 (7 * i + 3)) ((qg X).2.2.2 x 2) ∧ CV X n ((qM X) 4 (7 * i + 2)) ((qM X) 4 (7 * i + 3)))) ∧
  (k = 2 ∨ k = 13 → (qf X) x 3 = (qM X) 4 (7 * i + 4)) ∧
  (k = 9 → ∃ q, q < (nF X) ∧ (qM X) 4 (7 * i + 4) = nI q ∧ (qf X) x 3 = nI q) ∧
  (k = 11 ∨ k = 14 → ∃ r, r < (nR X) ∧ (qM X) 4 (7 * i + 4) = nI r ∧ (qg X).2.2.2 x 4 = some (rG X r) ∧ (k = 11 → 1 ≤ mZ X r))
def FR (b0 n0 : Nat) (X : zCt) (i x : Nat) : Prop :=
  i < (nP X) ∧ n0 ≤ x ∧ zIn b0 (qg X) x 2 ∧ ∃ k, 1 ≤ k ∧ k ≤ 14 ∧ (qM X) 4 (7 * i) = nI k ∧ (qf X) x 0 = nI k ∧ FK X k i x
/-- env e -/
def ER1 (b0 n0 : Nat) (X : zCt) (e : Nat) : Prop :=
  n0 ≤ sG X e ∧ zIn b0 (qg X) (sG X e) 9 ∧ (∃ v, v < 26 ∧ (qM X) 2 (30 + 3 * e) = nI v ∧ (qf X) (sG X e) 0 = nI v) ∧ (qf X) (sG X e) 1 = (qM X) 2 (30 + 3 * e + 1) ∧
  (((qM X) 2 (30 + 3 * e + 2) = -9 ∧ (qg X).2.2.2 (sG X e) 3 = none ∧ ∀ v, eL X e v → (qM X) 2 (30 + 3 * e) = nI v) ∨
    ∃ e1, e1 < e ∧ (qM X) 2 (30 + 3 * e + 2) = nI e1 ∧ (qg X).2.2.2 (sG X e) 3 = some (sG X e1) ∧ ∀ v, eL X e v → (qM X) 2 (30 + 3 * e) = nI v ∨ eL X e1 v)
/-- resumption r: its object, its frames -/
def RS1 (b0 n0 : Nat) (X : zCt) (r : Nat) : Prop :=
  (n0 ≤ rG X r ∧ zIn b0 (qg X) (rG X r) 7 ∧ (qf X) (rG X r) 0 = nI r ∧ mZ X r ≤ 100 ∧ (qM X) 2 (3630 + 3 * r + 1) = nI (mZ X r) ∧
    (qM X) 2 (3630 + 3 * r) = (if mZ X r = 0 then -9 else nI (cI X r (mZ X r - 1)))) ∧
  ∃ a, (qg X).2.2.2 (rG X r) 1 = some a ∧ n0 ≤ a ∧ zIn b0 (qg X) a 15 ∧ (qg X).2.2.1 a = mZ X r ∧
    ∀ p, p < mZ X r → ∃ x, (qg X).2.2.2 a p = some x ∧ FR b0 n0 X (cI X r p) x ∧ (1 ≤ p → (qM X) 4 (7 * cI X r p + 5) = nI (cI X r (p - 1))) ∧
      ((qM X) 4 (7 * cI X r p) = nI 14 → ∃ r1, r1 < r ∧ (qM X) 4 (7 * cI X r p + 4) = nI r1)
/-- the stack's place p -/
def SK1 (b0 n0 : Nat) (X : zCt) (R : zRf) (p : Nat) : Prop :=
  ∃ x, R 20 p = some x ∧ FR b0 n0 X (fI X p) x ∧ (qM X) 4 (7 * fI X p + 6) = nI (p + 1) ∧ (qM X) 4 (7 * fI X p + 5) = (if p = 0 then -9 else nI (fI X (p - 1)))
/-- the stack, its numbers aside -/
def SK (b0 n0 : Nat) (X : zCt) (R : zRf) : Prop :=
  (nD X) ≤ 100 ∧ (qM X) 2 7 = (if (nD X) = 0 then -9 else nI (fI X ((nD X) - 1))) ∧ ∀ p, p < (nD X) → SK1 b0 n0 X R p
/-- what was there is as it was -/
def EXT (X Y : zCt) : Prop :=
  (zXt (qg X) (qg Y) ∧ ∀ y, y < (qg X).1 → (qf Y) y = (qf X) y) ∧ (∀ k, k < 7 * (nP X) → (qM Y) 4 k = (qM X) 4 k) ∧ ((qM Y) 1 = (qM X) 1 ∧ (qt Y) = (qt X)) ∧
  ((nV X) ≤ (nV Y) ∧ (nR X) ≤ (nR Y) ∧ (nF X) ≤ (nF Y) ∧ (nP X) ≤ (nP Y)) ∧
  (∀ e, e < (nV X) → (sG Y) e = sG X e ∧ (eL Y) e = eL X e) ∧
  (∀ r, r < (nR X) → (rG Y) r = rG X r ∧ (cI Y) r = cI X r ∧ (mZ Y) r = mZ X r)
