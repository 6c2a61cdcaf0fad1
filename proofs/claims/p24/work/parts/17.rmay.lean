/-! The reference's sets of what may happen, in literal form. -/
def plevels (s a : Int32) : Int32 := (s >>> ((4 * a) &&& 31)) &&& 15
def pwith (s a x : Int32) : Int32 := (s &&& ((15 <<< ((4 * a) &&& 31)) ^^^ -1)) ||| (x <<< ((4 * a) &&& 31))
def pmasked (s a : Int32) : Int32 := pwith s a (((plevels s a <<< ((1 : Int32) &&& 31)) &&& 15) ||| (plevels s a &&& 8))
def phandled (s a : Int32) : Int32 := pwith s a ((plevels s a >>> ((1 : Int32) &&& 31)) ||| (plevels s a &&& 8))
def pofhA (M : zI) (x : Int32) : Nat → Nat → Int32 → Int32
  | 0, _, s => s
  | j + 1, k, s => pofhA M x j (k + 1) (if pclause M x (nI k) = -9 then s else phandled s (nI k))
def pofh (M : zI) (x : Int32) : Int32 := pofhA M x 6 0 (M 14 (tn (ppart M x 1))) ||| M 15 (tn (ppart M x 1))
/-- what the clauses from c on have in row r, or'd to s -/
def pchA (M : zI) (r : Nat) : Nat → Int32 → Int32 → Int32
  | 0, _, s => s
  | k + 1, c, s => if c = -9 then s else pchA M r k (M 1 (5 * tn c + 3)) (s ||| M r (tn c))
def pprA (M : zI) (r : Nat) (x : Int32) : Nat → Nat → Int32 → Int32
  | 0, _, s => s
  | j + 1, k, s => pprA M r x j (k + 1) (s ||| M r (tn (ppart M x (nI k))))
def pcal (M : zI) (r : Nat) (x : Int32) : Int32 := if M 2 (1 + tn (parg M x)) = -9 then 0 else M r (tn (M 2 (1 + tn (parg M x))))
def plvE (M : zI) (x s : Int32) : Int32 := if pkind M x = 10 then s ||| (1 <<< ((4 * parg M x) &&& 31)) else if pkind M x = 11 then pmasked s (parg M x) else if pkind M x = 12 then s else if pkind M x = 13 then s ||| pcal M 14 x else if pkind M x = 14 then s ||| M 14 (tn (M 1 (5 * tn x + 4))) else s
def pleaves (M : zI) (x : Int32) : Int32 := if pkind M x < 2 then 0 else if pkind M x = 16 then M 14 (tn (ppart M x 1)) else if pkind M x = 15 then pchA M 14 8 (M 1 (5 * tn x + 3)) (pofh M x)
  else plvE M x (pprA M 14 x (tn (pparts (pkind M x))) 1 0)
def pltE (M : zI) (x s : Int32) : Int32 := if pkind M x = 12 then s ||| M 14 (tn (ppart M x 2)) else if pkind M x = 13 then s ||| pcal M 15 x else if pkind M x = 14 then s ||| M 15 (tn (M 1 (5 * tn x + 4))) else s
def plate (M : zI) (x : Int32) : Int32 := if pkind M x < 2 then 0 else if pkind M x = 15 then pchA M 15 8 (M 1 (5 * tn x + 3)) (M 15 (tn (ppart M x 1)))
  else pltE M x (if pkind M x = 16 then M 15 (tn (ppart M x 1)) else pprA M 15 x (tn (pparts (pkind M x)) - 1) 2 (M 15 (tn (ppart M x 1))))
/-- a row of the tree is fit for may -/
def pnV (M : zI) (x : Int32) : Prop := iv 65000 x ∧ (¬ pkind M x < 2 → iv 65000 (ppart M x 1)) ∧ (pkind M x = 15 → plpV M x) ∧ (¬ pkind M x < 2 → ¬ pkind M x = 15 → ¬ pkind M x = 16 → ∀ k, 1 ≤ k → k ≤ tn (pparts (pkind M x)) → iv 65000 (ppart M x (nI k))) ∧
  (pkind M x = 13 → iv 4 (parg M x) ∧ (¬ M 2 (1 + tn (parg M x)) = -9 → iv 65000 (M 2 (1 + tn (parg M x))))) ∧ (pkind M x = 14 → iv 65000 (M 1 (5 * tn x + 4)))
theorem pofh_s {M : zI} {x : Int32} : True := trivial
theorem plv_1 {M : zI} {x : Int32} (h0 : ¬ pkind M x < 2) (h1 : ¬ pkind M x = 16) (h2 : ¬ pkind M x = 15) : pleaves M x = plvE M x (pprA M 14 x (tn (pparts (pkind M x))) 1 0) := (if_neg h0).trans ((if_neg h1).trans (if_neg h2))
theorem plt_1 {M : zI} {x : Int32} (h0 : ¬ pkind M x < 2) (h2 : ¬ pkind M x = 15) : plate M x = pltE M x (if pkind M x = 16 then M 15 (tn (ppart M x 1)) else pprA M 15 x (tn (pparts (pkind M x)) - 1) 2 (M 15 (tn (ppart M x 1)))) := (if_neg h0).trans (if_neg h2)
theorem pparts_1 (k : Int32) : 1 ≤ tn (pparts k) := by
  unfold pparts
  split
  · decide
  · split
    · decide
    · decide
/-- rows 14 and 15 are written: what the tree says stays -/
theorem pnV.r {M : zI} {x : Int32} {r : Nat} (h : pnV M x) (h1 : r ≠ 1) (h2 : r ≠ 2) (a : Nat) (v : Int32) : pnV (zup M r a v) x := by
  have e1 : zup M r a v 1 = M 1 := zup_r (fun q => h1 q.symm)
  have e2 : zup M r a v 2 = M 2 := zup_r (fun q => h2 q.symm)
  have ek : pkind (zup M r a v) x = pkind M x := congrFun e1 _
  have ea : parg (zup M r a v) x = parg M x := congrFun e1 _
  have ep : ∀ k, ppart (zup M r a v) x k = ppart M x k := fun k => congrFun e1 _
  unfold pnV
  rw [ek, ea, e1, e2]
  simp only [ep]
  exact ⟨h.1, h.2.1, fun q => (h.2.2.1 q).r h1 _ _, h.2.2.2.1, h.2.2.2.2.1, h.2.2.2.2.2⟩
/-- the rows from r0 on, the last of j first -/
def pgrw (M : zI) (n : Nat) : zI := zup (zup M 14 n (pleaves M (nI n))) 15 n (plate M (nI n))
def pgrf (M : zI) (n : Nat) : Int32 := if pleaves M (nI n) = M 14 n ∧ plate M (nI n) = M 15 n then 0 else 1
def pgrA (r0 : Nat) : Nat → Int32 → zI → Int32 × zI
  | 0, b, M => (b, M)
  | j + 1, b, M => pgrA r0 j (b ||| pgrf M (r0 + j)) (pgrw M (r0 + j))
def pgrow (M : zI) (x : Int32) : Int32 × zI := if x = -9 then (0, M) else pgrA (tn x) (tn (M 11 (tn x)) - tn x) 0 M
def pgrV (M : zI) (x : Int32) : Prop := ¬ x = -9 → iv 65000 x ∧ iv 65001 (M 11 (tn x)) ∧ tn x ≤ tn (M 11 (tn x)) ∧ ∀ n, tn x ≤ n → n < tn (M 11 (tn x)) → pnV M (nI n)
theorem por01 {a b : Int32} (ha : a = 0 ∨ a = 1) (hb : b = 0 ∨ b = 1) : (a ||| b) = 0 ∨ (a ||| b) = 1 := by
  rcases ha with rfl | rfl <;> rcases hb with rfl | rfl <;> decide
theorem pgrf_01 (M : zI) (n : Nat) : pgrf M n = 0 ∨ pgrf M n = 1 := by
  unfold pgrf
  split
  · exact Or.inl rfl
  · exact Or.inr rfl
theorem pgrA_01 (r0 : Nat) : ∀ (j : Nat) (b : Int32) (M : zI), b = 0 ∨ b = 1 → (pgrA r0 j b M).1 = 0 ∨ (pgrA r0 j b M).1 = 1 := by
  intro j
  induction j with
  | zero => intro b M h; exact h
  | succ j ih => intro b M h; exact ih _ _ (por01 h (pgrf_01 M _))
theorem pgrow_01 (M : zI) (x : Int32) : (pgrow M x).1 = 0 ∨ (pgrow M x).1 = 1 := zite01 _ _ _ (Or.inl rfl) (pgrA_01 _ _ _ _ (Or.inl rfl))
