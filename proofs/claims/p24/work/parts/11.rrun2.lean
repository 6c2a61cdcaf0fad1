/-! The reference's run: its loops, and what calls them. -/
/-- the clauses from c on: the first for w -/
def pclA (M : zI) (w : Int32) : Nat → Int32 → Int32
  | 0, c => c
  | k + 1, c => if c = -9 then c else if M 1 (5 * tn c + 4) = w then c else pclA M w k (M 1 (5 * tn c + 3))
def pclV (M : zI) : Nat → Int32 → Prop
  | 0, _ => False
  | k + 1, c => c = -9 ∨ (iv 65000 c ∧ pclV M k (M 1 (5 * tn c + 3)))
def pclause (M : zI) (n w : Int32) : Int32 := pclA M w 8 (M 1 (5 * tn n + 3))
def pclOk (M : zI) (n : Int32) : Prop := pclV M 8 (M 1 (5 * tn n + 3))
def pvalA (M : zI) (c : Int32) : Nat → Int32 → Int32
  | 0, _ => 0
  | k + 1, e => if M 2 (30 + 3 * tn e) = c then M 2 (30 + 3 * tn e + 1) else pvalA M c k (M 2 (30 + 3 * tn e + 2))
def pvalV (M : zI) (c : Int32) : Nat → Int32 → Prop
  | 0, _ => False
  | k + 1, e => iv 1200 e ∧ (M 2 (30 + 3 * tn e) = c ∨ pvalV M c k (M 2 (30 + 3 * tn e + 2)))
def pval (M : zI) (c : Int32) : Int32 := pvalA M c 1201 (M 2 18)
/-- the frames from f on: the one that handles a, and how many stand above it -/
def pmk (M : zI) (a f m : Int32) : Int32 := if pof M f 0 = 8 ∧ parg M (pof M f 1) = a then m + 1 else m
def phas (M : zI) (a f : Int32) : Prop := pof M f 0 = 12 ∧ ¬ pclause M (pof M f 1) a = -9
def phA (M : zI) (a : Int32) : Nat → Int32 → Int32 → Int32 → Int32 × Int32
  | 0, _, _, s => (-9, s)
  | k + 1, m, f, s => if f = -9 then (-9, s) else
      if pof M f 0 = 12 ∧ ¬ pclause M (pof M f 1) a = -9 then (if pmk M a f m = 0 then (f, s) else phA M a k (pmk M a f m + -1) (pof M f 5) (s + 1)) else phA M a k (pmk M a f m) (pof M f 5) (s + 1)
def phV (M : zI) : Nat → Int32 → Prop
  | 0, _ => False
  | k + 1, f => f = -9 ∨ (iv 40000 f ∧ (pof M f 0 = 8 → iv 65000 (pof M f 1)) ∧ (pof M f 0 = 12 → iv 65000 (pof M f 1) ∧ pclOk M (pof M f 1)) ∧ phV M k (pof M f 5))
def phand (M : zI) (a : Int32) : Int32 × Int32 := phA M a 101 0 (M 2 7) 0
theorem zup_zup {α : Type} (f : Nat → Nat → α) (a k : Nat) (x y : α) : zup (zup f a k x) a k y = zup f a k y := by
  funext b j
  unfold zup
  by_cases h : b = a
  · subst h
    by_cases h2 : j = k
    · simp [h2]
    · simp [h2]
  · simp [h]
def pag : Nat → Nat → Int32 → zI → zI
  | 0, _, _, M => M
  | n + 1, k, x, M => pag n (k + 1) (pof M x 5) (zup M 16 k x)
def pagV (M : zI) : Nat → Int32 → Prop
  | 0, _ => True
  | n + 1, x => iv 40000 x ∧ pagV M n (pof M x 5)
def ppu1 (M : zI) (j : Nat) : zI := ppush M (pof M (M 16 j) 0) (pof M (M 16 j) 1) (pof M (M 16 j) 2) (pof M (M 16 j) 3) (pof M (M 16 j) 4)
def ppu : Nat → zI → zI
  | 0, M => M
  | j + 1, M => ppu j (ppu1 M j)
def ppuV : Nat → zI → Prop
  | 0, _ => True
  | j + 1, M => iv 40000 (M 16 j) ∧ iv 39999 (M 2 21) ∧ vd 40000 (M 2 7) ∧ ppuV j (ppu1 M j)
def prMany (M : zI) (r : Int32) : Int32 := M 2 (3630 + 3 * tn r + 1)
def prTop (M : zI) (r : Int32) : Int32 := M 2 (3630 + 3 * tn r)
def prs4 (N : zI) (r : Int32) : zI :=
  let M3 := zup N 2 (3630 + 3 * tn r + 2) (N 2 (3630 + 3 * tn r + 2) + 1)
  zup M3 2 12 (M3 2 12 + 1)
def prsE (N : zI) (r v z : Int32) : zI := pbecome (zup (prs4 N r) 2 13 (prs4 N r 2 13 + z)) v
def prs0 (M : zI) (r : Int32) : zI := ppu (tn (prMany M r)) (pag (tn (prMany M r)) 0 (prTop M r) M)
def presume (M : zI) (r v : Int32) : zI := prsE (prs0 M r) r v (if puses (prs4 (prs0 M r) r) r = 2 then 1 else 0)
/-- a frame may be pushed -/
def pushV (M : zI) : Prop := iv 39999 (M 2 21) ∧ vd 40000 (M 2 7)
theorem ppush_of {M : zI} {a b c e h x k : Int32} (hx : tn x < tn (M 2 21)) (hk : tn k < 7) : pof (ppush M a b c e h) x k = pof M x k := by
  have n0 : ∀ j, j < 7 → ¬ (7 * tn x + tn k = 7 * tn (M 2 21) + j) := by intro j hj; omega
  unfold pof ppush
  simp [zup, n0]
  exact fun q => absurd q (n0 0 (by omega))
def pexec1 (M : zI) (x : Int32) : zI := zup (zup M 2 (7230 + tn (pof M x 4)) 1) 2 14 (zup M 2 (7230 + tn (pof M x 4)) 1 2 14 + 1)
def pexecV (M : zI) (x : Int32) : Prop := iv 40000 x ∧ tn x < tn (M 2 21) ∧ iv 1200 (pof M x 4) ∧ iv 65000 (pof M x 1) ∧ pushV M
theorem pexec1_w {M : zI} {x : Int32} {k : Nat} (h1 : k < 7230) (h2 : ¬ k = 14) : pexec1 M x 2 k = M 2 k := by
  unfold pexec1
  rw [zup_ne _ _ _ _ (Or.inr h2), zup_ne _ _ _ _ (Or.inr (by omega))]
def pleave (M : zI) (x v : Int32) : zI :=
  if pclause M (pof M x 1) 6 = -9 then pbecome M v else pfocusOn (pbindTo M (pof M x 2) (parg M (pclause M (pof M x 1) 6)) v) (ppart M (pclause M (pof M x 1) 6) 1) (M 2 22) (pof M x 3)
def pleaveV (M : zI) (x : Int32) : Prop := iv 40000 x ∧ iv 65000 (pof M x 1) ∧ pclOk M (pof M x 1) ∧ (¬ pclause M (pof M x 1) 6 = -9 → iv 65000 (pclause M (pof M x 1) 6)) ∧ iv 1200 (M 2 22)
def pcall (M : zI) (x v : Int32) : zI :=
  if M 2 (1 + tn (parg M (pof M x 1))) = -9 then pbecome M v else pfocusOn (pbindTo M (-9) 23 v) (M 2 (1 + tn (parg M (pof M x 1)))) (M 2 22) (-9)
def pcallV (M : zI) (x : Int32) : Prop := iv 40000 x ∧ iv 65000 (pof M x 1) ∧ iv 4 (parg M (pof M x 1)) ∧ iv 1200 (M 2 22)
def pf1 (M : zI) (a : Int32) : zI :=
  let M1 := zup M 2 10 (M 2 10 + 1)
  zup M1 2 (24 + tn a) (M1 2 (24 + tn a) + 1)
def pf3 (M : zI) (a : Int32) : zI := zup (pf1 M a) 0 28 (phand (pf1 M a) a).2
def pfh (M : zI) (a : Int32) : Int32 := (phand (pf1 M a) a).1
def pf4 (M : zI) (a : Int32) : zI := pmakeRes (pf3 M a) (pf3 M a 2 7) (pf3 M a 0 28 + 1)
def pf5 (M : zI) (a : Int32) : zI := zup (pf4 M a) 2 7 (pof (pf4 M a) (pfh M a) 5)
def pf6 (M : zI) (a : Int32) : zI := ppush (pf5 M a) 14 (-9) (-9) (-9) (pf3 M a 2 11)
def pfc (M : zI) (a : Int32) : Int32 := pclause (pf4 M a) (pof (pf4 M a) (pfh M a) 1) a
def pf7 (M : zI) (a v : Int32) : zI := pbindTo (pf6 M a) (pof (pf6 M a) (pfh M a) 2) (parg (pf6 M a) (pfc M a)) v
def pperf (M : zI) (a v : Int32) : zI :=
  if pfh M a = -9 then zup (zup (zup (zup (pf3 M a) 2 5 3) 2 15 a) 2 20 v) 2 16 0
  else pfocusOn (pf7 M a v) (ppart (pf6 M a) (pfc M a) 1) (pf6 M a 2 22) (pf3 M a 2 11)
def pperfV (M : zI) (a : Int32) : Prop := iv 6 a ∧ phV (pf1 M a) 101 (pf1 M a 2 7) ∧ (¬ pfh M a = -9 →
  iv 1200 (pf3 M a 2 11) ∧ iv 40000 (pfh M a) ∧ iv 65000 (pof (pf4 M a) (pfh M a) 1) ∧ pclOk (pf4 M a) (pof (pf4 M a) (pfh M a) 1) ∧ pushV (pf5 M a) ∧ iv 65000 (pfc M a) ∧ iv 1200 (pf6 M a 2 22))
def presumesV (M : zI) (r : Int32) : Prop := iv 1200 r ∧ vd 40000 (M 2 7) ∧ (¬ 100 < pdepth M + prMany M r →
  (∃ m : Nat, m ≤ 100 ∧ prMany M r = nI m ∧ pagV M m (prTop M r) ∧ ppuV m (pag m 0 (prTop M r) M)))
def presumes (M : zI) (r v : Int32) : Int32 × zI := if 100 < pdepth M + prMany M r then (0, M) else (1, presume M r v)
theorem pagV_16 {M : zI} {k : Nat} {y : Int32} : ∀ {n : Nat} {x : Int32}, pagV M n x → pagV (zup M 16 k y) n x := by
  intro n
  induction n with
  | zero => intro x h; exact trivial
  | succ n ih => intro x h; exact ⟨h.1, ih h.2⟩
/-- the search for a pending finalizer: n entries of its stack are in use -/
def ppdA (M : zI) (n : Nat) : zI :=
  let M1 := zup M 17 n (pof M (M 17 n) 5)
  zup M1 18 n (M1 18 n - 1)
def ppdB (M : zI) (n : Nat) (r : Int32) : zI :=
  let M3 := zup M 19 (tn r) (M 0 27)
  let M4 := zup M3 17 n (M3 2 (3630 + 3 * tn r))
  zup M4 18 n (M4 2 (3630 + 3 * tn r + 1))
def ppd9 (M : zI) (x : Int32) : Prop := pof M x 0 = 9 ∧ M 2 (7230 + tn (pof M x 4)) = 0
def ppd14 (M : zI) (x : Int32) : Prop := pof M x 0 = 14 ∧ puses M (pof M x 4) = 0 ∧ ¬ M 19 (tn (pof M x 4)) = M 0 27
def ppd : Nat → Nat → zI → Int32 × zI
  | 0, _, M => (-9, M)
  | _ + 1, 0, M => (-9, M)
  | k + 1, n + 1, M => if M 18 n = 0 then ppd k n M else
      if pof M (M 17 n) 0 = 9 ∧ M 2 (7230 + tn (pof M (M 17 n) 4)) = 0 then (M 17 n, ppdA M n)
      else if pof M (M 17 n) 0 = 14 ∧ puses M (pof M (M 17 n) 4) = 0 ∧ ¬ M 19 (tn (pof M (M 17 n) 4)) = M 0 27 then ppd k (n + 2) (ppdB (ppdA M n) (n + 1) (pof M (M 17 n) 4))
      else ppd k (n + 1) (ppdA M n)
def ppdV : Nat → Nat → zI → Prop
  | 0, _, _ => False
  | _ + 1, 0, _ => True
  | k + 1, n + 1, M => n < 1209 ∧ (M 18 n = 0 → ppdV k n M) ∧ (¬ M 18 n = 0 → iv 40000 (M 17 n) ∧ (pof M (M 17 n) 0 = 9 ∨ pof M (M 17 n) 0 = 14 → iv 1200 (pof M (M 17 n) 4)) ∧
      (¬ (pof M (M 17 n) 0 = 9 ∧ M 2 (7230 + tn (pof M (M 17 n) 4)) = 0) → (pof M (M 17 n) 0 = 14 ∧ puses M (pof M (M 17 n) 4) = 0 ∧ ¬ M 19 (tn (pof M (M 17 n) 4)) = M 0 27 → ppdV k (n + 2) (ppdB (ppdA M n) (n + 1) (pof M (M 17 n) 4))) ∧
        (¬ (pof M (M 17 n) 0 = 14 ∧ puses M (pof M (M 17 n) 4) = 0 ∧ ¬ M 19 (tn (pof M (M 17 n) 4)) = M 0 27) → ppdV k (n + 1) (ppdA M n))))
def ppend0 (M : zI) (r : Int32) : zI :=
  let M1 := zup M 0 27 (M 0 27 + 1)
  let M2 := zup M1 19 (tn r) (M1 0 27)
  let M3 := zup M2 17 0 (M2 2 (3630 + 3 * tn r))
  zup M3 18 0 (M3 2 (3630 + 3 * tn r + 1))
def ppendV (M : zI) (r : Int32) (k : Nat) : Prop := iv 1200 r ∧ ppdV k 1 (ppend0 M r)
def ppend (M : zI) (r : Int32) (k : Nat) : Int32 × zI := ppd k 1 (ppend0 M r)
