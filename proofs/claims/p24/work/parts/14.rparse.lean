/-! The reference's reading of texts, in literal form. -/
/-- the place in the text: at, and the length -/
def pat (M : zI) : Prop := iv 121 (M 0 14) ∧ iv 121 (M 0 8)
theorem pat.lt {M : zI} (h : pat M) (c : M 0 14 < M 0 8) : tn (M 0 14) < tn (M 0 8) := by
  rw [h.1.2, h.2.2] at c
  exact (nI_ltI (by have := h.1.1; omega) (by have := h.2.1; omega)).mp c
theorem pat.nlt {M : zI} (h : pat M) (c : ¬ M 0 14 < M 0 8) : tn (M 0 8) ≤ tn (M 0 14) := by
  rcases Nat.lt_or_ge (tn (M 0 14)) (tn (M 0 8)) with q | q
  · exact absurd (by rw [h.1.2, h.2.2]; exact nI_lt q (by have := h.2.1; omega)) c
  · exact q
def pskA : Nat → zI → zI
  | 0, M => M
  | k + 1, M => if M 0 14 < M 0 8 ∧ M 6 (tn (M 0 14)) = 32 then pskA k (zup M 0 14 (M 0 14 + 1)) else M
def pskip (M : zI) : zI := pskA 121 M
def phere (M : zI) : Int32 := if M 0 14 < M 0 8 then M 6 (tn (M 0 14)) else 0
def pfails (M : zI) : zI := zup M 0 15 (if M 0 15 = -9 then M 0 14 else M 0 15)
def pmake1 (M : zI) (k a : Int32) : zI :=
  let t := 5 * tn (M 0 1)
  zup (zup (zup (zup (zup (zup M 0 1 (M 0 1 + 1)) 1 t k) 1 (t + 1) a) 1 (t + 2) (-9)) 1 (t + 3) (-9)) 1 (t + 4) (-9)
def pmakeE (M1 : zI) (z : Int32) : zI := zup M1 0 16 (M1 0 16 + z)
def pmake (M : zI) (k a : Int32) : zI := pmakeE (pmake1 M k a) (if k = 16 then 0 else 1)
def patn (M : zI) : zI := zup M 0 14 (M 0 14 + 1)
theorem pat.next {M : zI} (h : pat M) (c : M 0 14 < M 0 8) : pat (patn M) := by
  have h1 := h.lt c
  have h2 := h.2.1
  refine ⟨?_, h.2⟩
  show iv 121 (M 0 14 + 1)
  rw [h.1.2, nI_1]
  exact iv_nI (by omega) (by decide)
theorem pskA_pat : ∀ (k : Nat) {M : zI}, pat M → pat (pskA k M) := by
  intro k
  induction k with
  | zero => intro M h; exact h
  | succ k ih =>
    intro M h
    unfold pskA
    by_cases c : M 0 14 < M 0 8 ∧ M 6 (tn (M 0 14)) = 32
    · rw [if_pos c]; exact ih (h.next c.1)
    · rw [if_neg c]; exact h
theorem pat.skip {M : zI} (h : pat M) : pat (pskip M) := pskA_pat _ h
def ptake (M : zI) (a b : Int32) : Int32 × zI := if phere (pskip M) < a ∨ b < phere (pskip M) then (0, pfails (pskip M)) else (M 6 (tn (pskip M 0 14)) - a, patn (pskip M))
theorem pskA_row : ∀ (k : Nat) (M : zI) (r : Nat), r ≠ 0 → pskA k M r = M r := by
  intro k
  induction k with
  | zero => intro M r h; rfl
  | succ k ih =>
    intro M r h
    unfold pskA
    split
    · rw [ih _ r h]
      funext c
      exact zup_ne _ _ _ _ (Or.inl h)
    · rfl
theorem pskip_row {M : zI} {r : Nat} (h : r ≠ 0) : pskip M r = M r := pskA_row _ _ _ h
theorem phere_0 {M : zI} (h : ¬ M 0 14 < M 0 8) : phere M = 0 := if_neg h
theorem phere_1 {M : zI} (h : M 0 14 < M 0 8) : phere M = M 6 (tn (M 0 14)) := if_pos h
def prnA : Nat → Int32 → zI → Int32 × zI
  | 0, v, M => (v, M)
  | k + 1, v, M => if phere M < 48 ∨ 57 < phere M then (v, M) else prnA k (10 * v + phere M - 48) (patn M)
def prnum (M : zI) : Int32 × zI := prnA 3 0 M
theorem phere_lt {M : zI} {a b : Int32} (ha : 0 < a) (h : ¬ (phere M < a ∨ b < phere M)) : M 0 14 < M 0 8 := by
  rcases Decidable.em (M 0 14 < M 0 8) with q | q
  · exact q
  · exact absurd (Or.inl (by rw [phere_0 q]; exact ha)) h
theorem prnA_pat : ∀ (k : Nat) (v : Int32) {M : zI}, pat M → pat (prnA k v M).2 := by
  intro k
  induction k with
  | zero => intro v M h; exact h
  | succ k ih =>
    intro v M h
    unfold prnA
    by_cases c : phere M < 48 ∨ 57 < phere M
    · rw [if_pos c]; exact h
    · rw [if_neg c]; exact ih _ (h.next (phere_lt (by decide) c))
def pkindOf (c : Int32) : Int32 := if c = 33 then 9 else if c = 37 then 12 else if c = 38 then 13 else if c = 42 then 4 else if c = 43 then 2 else if c = 45 then 3 else if c = 59 then 7 else if c = 60 then 5 else if c = 61 then 8 else if c = 63 then 6 else if c = 64 then 14 else if c = 94 then 10 else if c = 123 then 15 else if c = 126 then 11 else -9
def preadArg (M : zI) (k : Int32) : Int32 × zI := if k = 8 then ptake M 97 122 else if k = 9 then (0, M) else if k = 10 then ptake M 65 70 else if k = 11 then ptake M 65 70 else if k = 12 then (0, M) else if k = 13 then ptake M 48 51 else (0, M)
theorem preadArg_k {M : zI} {k k' : Int32} (h : k = k') : preadArg M k = preadArg M k' := by rw [h]
def penter (M : zI) (n v m : Int32) : zI :=
  let t := tn (M 0 13)
  let M1 := zup (zup (zup (zup M 7 t n) 8 t 0) 9 t v) 10 t m
  zup M1 0 13 (M1 0 13 + 1)
def pparts (k : Int32) : Int32 := if k = 6 then 3 else if k < 9 ∨ k = 12 then 2 else 1
def pbwN (M : zI) : zI := pmake (prnum M).2 0 (prnum M).1
def pbwV (M : zI) : zI := pmake (patn M) 1 (phere M - 97)
def pbwA (M : zI) : Int32 × zI := preadArg (patn M) (pkindOf (phere M))
def pbw4 (N : zI) (k m : Int32) : zI := zup N 1 (5 * tn (N 0 17) + 4) (if k = 14 then m - 1 else -9)
def pbwE (M : zI) (v m : Int32) : zI :=
  let q := pbwA M
  let N := zup (pmake q.2 (pkindOf (phere M)) q.1) 0 17 (q.2 0 1)
  penter (pbw4 N (pkindOf (phere M)) m) (q.2 0 1) v m
/-- an expression's beginning, behind the blanks -/
def pbw (M : zI) (v m : Int32) : Int32 × zI :=
  if ¬ (phere M < 48 ∨ 57 < phere M) then (1, zup (pbwN M) 0 17 ((prnum M).2 0 1))
  else if ¬ (phere M < 97 ∨ 122 < phere M) ∧ (v >>> ((phere M - 97) &&& 31)) &&& 1 = 1 then (1, zup (pbwV M) 0 17 (M 0 1))
  else if pkindOf (phere M) = -9 ∨ (pkindOf (phere M) = 14 ∧ m = 0) then (1, pfails M)
  else if (pbwA M).2 0 15 = -9 then (0, pbwE M v m) else (0, (pbwA M).2)
def pbegins (M : zI) (v m : Int32) : Int32 × zI := pbw (pskip M) v m
def pbeginsV (M : zI) : Prop := pat M ∧ iv 64990 (M 0 1) ∧ iv 129 (M 0 13)
theorem zup_r {α : Type} {f : Nat → Nat → α} {a k b : Nat} {v : α} (h : b ≠ a) : zup f a k v b = f b := by
  funext c
  exact zup_ne _ _ _ _ (Or.inl h)
theorem prnA_0 : ∀ (k : Nat) (v : Int32) (M : zI) (c : Nat), c ≠ 14 → (prnA k v M).2 0 c = M 0 c := by
  intro k
  induction k with
  | zero => intro v M c h; rfl
  | succ k ih =>
    intro v M c h
    unfold prnA
    split
    · rfl
    · rw [ih _ _ c h]
      exact zup_ne _ _ _ _ (Or.inr h)
theorem pskA_0 : ∀ (k : Nat) (M : zI) (c : Nat), c ≠ 14 → pskA k M 0 c = M 0 c := by
  intro k
  induction k with
  | zero => intro M c h; rfl
  | succ k ih =>
    intro M c h
    unfold pskA
    split
    · rw [ih _ c h]
      exact zup_ne _ _ _ _ (Or.inr h)
    · rfl
theorem pskip_0 {M : zI} {c : Nat} (h : c ≠ 14) : pskip M 0 c = M 0 c := pskA_0 _ _ _ h
theorem ptake_0 {M : zI} {a b : Int32} {c : Nat} (h : c ≠ 14) (h2 : c ≠ 15) : (ptake M a b).2 0 c = M 0 c := by
  unfold ptake
  split
  · show pfails (pskip M) 0 c = M 0 c
    unfold pfails
    rw [zup_ne _ _ _ _ (Or.inr h2)]
    exact pskip_0 h
  · show patn (pskip M) 0 c = M 0 c
    unfold patn
    rw [zup_ne _ _ _ _ (Or.inr h)]
    exact pskip_0 h
theorem preadArg_0 {M : zI} {k : Int32} {c : Nat} (h : c ≠ 14) (h2 : c ≠ 15) : (preadArg M k).2 0 c = M 0 c := by
  unfold preadArg
  repeat' split
  all_goals first | exact ptake_0 h h2 | rfl
theorem pbeginsV.s {M : zI} (h : pbeginsV M) : pat (pskip M) ∧ iv 64990 (pskip M 0 1) ∧ iv 129 (pskip M 0 13) := ⟨h.1.skip, by rw [pskip_0 (by decide)]; exact h.2.1, by rw [pskip_0 (by decide)]; exact h.2.2⟩
theorem pmake_0 {M : zI} {k a : Int32} {c : Nat} (h : c ≠ 1) (h2 : c ≠ 16) : pmake M k a 0 c = M 0 c := by
  unfold pmake pmakeE pmake1
  rw [zup_ne _ _ _ _ (Or.inr h2), zup_r (show (0 : Nat) ≠ 1 by decide), zup_r (show (0 : Nat) ≠ 1 by decide), zup_r (show (0 : Nat) ≠ 1 by decide), zup_r (show (0 : Nat) ≠ 1 by decide), zup_r (show (0 : Nat) ≠ 1 by decide), zup_ne _ _ _ _ (Or.inr h)]
def pbwF (N : zI) (k a v m : Int32) : zI := penter (pbw4 (zup (pmake N k a) 0 17 (N 0 1)) k m) (N 0 1) v m
def pbwG (N : zI) (k a v m : Int32) : Int32 × zI := (0, if N 0 15 = -9 then pbwF N k a v m else N)
theorem pbw_1 {M : zI} {v m : Int32} (h1 : ¬ ¬ (phere M < 48 ∨ 57 < phere M)) (h2 : ¬ (¬ (phere M < 97 ∨ 122 < phere M) ∧ (v >>> ((phere M - 97) &&& 31)) &&& 1 = 1)) (h3 : ¬ (pkindOf (phere M) = -9 ∨ (pkindOf (phere M) = 14 ∧ m = 0))) : pbw M v m = pbwG (pbwA M).2 (pkindOf (phere M)) (pbwA M).1 v m := by
  unfold pbw pbwG
  rw [if_neg h1, if_neg h2, if_neg h3]
  by_cases h : (pbwA M).2 0 15 = -9
  · rw [if_pos h, if_pos h]; rfl
  · rw [if_neg h, if_neg h]
theorem zB_no {p : Prop} [Decidable p] (h : ¬ p) : zB p = 0 := if_neg h
