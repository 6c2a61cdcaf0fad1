/-! The reference's listing, in literal form. -/
def psignOf (k : Int32) : Int32 := if k = 2 then 43 else if k = 3 then 45 else if k = 4 then 42 else if k = 5 then 60 else if k = 6 then 63 else if k = 7 then 59 else if k = 8 then 61 else if k = 9 then 33 else if k = 10 then 94 else if k = 11 then 126 else if k = 12 then 37 else if k = 13 then 38 else if k = 14 then 64 else 123
def pput (q : Nat × zI) (x : Int32) : Nat × zI := (q.1 + 1, zup q.2 13 q.1 x)
def pputc (c : Prop) [Decidable c] (q : Nat × zI) (x : Int32) : Nat × zI := if c then pput q x else q
theorem pputc_t {c : Prop} [Decidable c] {q : Nat × zI} {x : Int32} (h : c) : pputc c q x = pput q x := if_pos h
theorem pputc_f {c : Prop} [Decidable c] {q : Nat × zI} {x : Int32} (h : ¬ c) : pputc c q x = q := if_neg h
def playNum (M : zI) (n : Nat) (v b : Int32) : Nat × zI := pput (pputc (9 < v) (pputc (99 < v) (pputc (¬ b = 0) (n, M) 32) (48 + v / 100)) (48 + (v / 10 - v / 10 / 10 * 10))) (48 + (v - v / 10 * 10))
def pnamed (M : zI) (x : Int32) : Int32 := if pkind M x = 8 then 97 + parg M x else if pkind M x = 9 then -9 else if pkind M x = 10 then 65 + parg M x else if pkind M x = 11 then 65 + parg M x else if pkind M x = 12 then -9 else if pkind M x = 13 then 48 + parg M x else -9
def plp1 (q : Nat × zI) (x : Int32) : Nat × zI := (q.1 + 1, zup q.2 12 q.1 x)
def plpC1 (x : Int32) (k : Nat) (q : Nat × zI) : Nat × zI := (q.1 + 3, zup (zup (zup q.2 12 q.1 (ppart q.2 (pclause q.2 x (nI k)) 1)) 12 (q.1 + 1) (-(97 + parg q.2 (pclause q.2 x (nI k))))) 12 (q.1 + 2) (if (nI k : Int32) = 6 then -58 else -(65 + nI k)))
def plpC (x : Int32) : Nat → Nat × zI → Nat × zI
  | 0, q => q
  | k + 1, q => plpC x k (if pclause q.2 x (nI k) = -9 then q else plpC1 x k q)
def plpP (x : Int32) : Nat → Nat × zI → Nat × zI
  | 0, q => q
  | k + 1, q => plpP x k (plp1 q (ppart q.2 x (nI (k + 1))))
def playParts (M : zI) (n : Nat) (x : Int32) : Nat × zI :=
  if pkind M x = 15 then plp1 (plpC x 7 (plp1 (n, M) (-125))) (ppart (plpC x 7 (plp1 (n, M) (-125))).2 x 1)
  else plpP x (tn (pparts (pkind M x))) (n, M)
/-- the clauses of a handler: each found is a row of the tree -/
def plpV (M : zI) (x : Int32) : Prop := iv 65000 x ∧ pclOk M x ∧ ∀ w, ¬ pclause M x w = -9 → iv 65000 (pclause M x w)
theorem pclA_12 {M : zI} {w : Int32} {a : Nat} {v : Int32} : ∀ {k : Nat} {c : Int32}, pclA (zup M 12 a v) w k c = pclA M w k c := by
  intro k
  induction k with
  | zero => intro c; rfl
  | succ k ih =>
    intro c
    unfold pclA
    rw [zup_r (show (1 : Nat) ≠ 12 by decide), ih]
theorem pclV_12 {M : zI} {a : Nat} {v : Int32} : ∀ {k : Nat} {c : Int32}, pclV (zup M 12 a v) k c ↔ pclV M k c := by
  intro k
  induction k with
  | zero => intro c; exact Iff.rfl
  | succ k ih =>
    intro c
    unfold pclV
    rw [zup_r (show (1 : Nat) ≠ 12 by decide), ih]
theorem pclause_12 {M : zI} {w x : Int32} {a : Nat} {v : Int32} : pclause (zup M 12 a v) x w = pclause M x w := by
  unfold pclause
  rw [pclA_12, zup_r (show (1 : Nat) ≠ 12 by decide)]
theorem plpV.s {M : zI} {x : Int32} (h : plpV M x) (a : Nat) (v : Int32) : plpV (zup M 12 a v) x := by
  refine ⟨h.1, ?_, fun w => ?_⟩
  · unfold pclOk
    rw [zup_r (show (1 : Nat) ≠ 12 by decide)]
    exact pclV_12.mpr h.2.1
  · rw [pclause_12]
    exact h.2.2 w
theorem plpV.s3 {M : zI} {x : Int32} (h : plpV M x) (k n : Nat) : plpV (plpC1 x k (n, M)).2 x := ((h.s _ _).s _ _).s _ _
theorem pparts_n (k : Int32) : iv 4 (pparts k) := by
  unfold pparts
  split
  · exact ⟨by decide, by decide⟩
  · split
    · exact ⟨by decide, by decide⟩
    · exact ⟨by decide, by decide⟩
def pllS (M : zI) (x : Int32) : Int32 := if x < 0 then -x else if pkind M x = 1 then 97 + parg M x else psignOf (pkind M x)
def pllN (M : zI) (n : Nat) (x : Int32) : Nat × zI := if ¬ x < 0 ∧ ¬ pnamed M x = -9 then (n + 1, zup M 13 n (pnamed M x)) else (n, M)
def pllB (M : zI) (left : Nat) (x : Int32) : Nat × zI := if ¬ x < 0 ∧ ¬ pkind M x = 1 then playParts M left x else (left, M)
def pllA (M : zI) (n : Nat) (x : Int32) : Nat × zI := pllN (zup M 13 n (pllS M x)) (n + 1) x
def pll : Nat → Nat → Nat → Int32 → zI → Nat × zI
  | 0, n, _, _, M => (n, M)
  | _ + 1, n, 0, _, M => (n, M)
  | j + 1, n, left + 1, b, M => if ¬ M 12 left < 0 ∧ pkind M (M 12 left) = 0 then pll j (playNum M n (parg M (M 12 left)) b).1 left 1 (playNum M n (parg M (M 12 left)) b).2
      else pll j (pllA M n (M 12 left)).1 (pllB (pllA M n (M 12 left)).2 left (M 12 left)).1 0 (pllB (pllA M n (M 12 left)).2 left (M 12 left)).2
def pllV : Nat → Nat → Nat → Int32 → zI → Prop
  | 0, _, _, _, _ => False
  | _ + 1, _, 0, _, _ => True
  | j + 1, n, left + 1, b, M => n < 390 ∧ left ≤ 370 ∧ (¬ M 12 left < 0 → iv 65000 (M 12 left) ∧ (pkind M (M 12 left) = 15 → plpV M (M 12 left))) ∧
      (¬ M 12 left < 0 ∧ pkind M (M 12 left) = 0 → pllV j (playNum M n (parg M (M 12 left)) b).1 left 1 (playNum M n (parg M (M 12 left)) b).2) ∧
      (¬ (¬ M 12 left < 0 ∧ pkind M (M 12 left) = 0) → pllV j (pllA M n (M 12 left)).1 (pllB (pllA M n (M 12 left)).2 left (M 12 left)).1 0 (pllB (pllA M n (M 12 left)).2 left (M 12 left)).2)
theorem pclA_r {M : zI} {w : Int32} {r a : Nat} {v : Int32} (hr : r ≠ 1) : ∀ {k : Nat} {c : Int32}, pclA (zup M r a v) w k c = pclA M w k c := by
  intro k
  induction k with
  | zero => intro c; rfl
  | succ k ih =>
    intro c
    unfold pclA
    rw [zup_r (show (1 : Nat) ≠ r from fun q => hr q.symm), ih]
theorem pclV_r {M : zI} {r a : Nat} {v : Int32} (hr : r ≠ 1) : ∀ {k : Nat} {c : Int32}, pclV (zup M r a v) k c ↔ pclV M k c := by
  intro k
  induction k with
  | zero => intro c; exact Iff.rfl
  | succ k ih =>
    intro c
    unfold pclV
    rw [zup_r (show (1 : Nat) ≠ r from fun q => hr q.symm), ih]
theorem plpV.r {M : zI} {x : Int32} {r : Nat} (h : plpV M x) (hr : r ≠ 1) (a : Nat) (v : Int32) : plpV (zup M r a v) x := by
  refine ⟨h.1, ?_, fun w => ?_⟩
  · unfold pclOk
    rw [zup_r (show (1 : Nat) ≠ r from fun q => hr q.symm)]
    exact (pclV_r hr).mpr h.2.1
  · unfold pclause
    rw [pclA_r hr, zup_r (show (1 : Nat) ≠ r from fun q => hr q.symm)]
    exact h.2.2 w
def pllf : Nat := 1000
def play0 (M : zI) : zI := zup M 12 0 (M 2 0)
def play (M : zI) : Nat × zI := pll pllf 0 1 0 (play0 M)
def plisting (M : zI) (x : Int32) : Int32 × zI := if x < 0 then (-1, M) else if M 2 0 = -9 then (-2, M) else (if x < nI (play M).1 then (play M).2 13 (tn x) else -9, (play M).2)
