/-! The reference's run: a step, and what the calls of a run do. -/
def pfu : Nat := 200000
def pclose (M : zI) (x v : Int32) : Int32 × zI :=
  let r := pof M x 4
  let q := if puses M r = 0 then ppend M r pfu else (-9, M)
  if q.1 = -9 then (1, pbecome q.2 v) else if 100 < pdepth q.2 + 2 then (0, q.2) else (1, pexec (ppush q.2 14 (-9) (-9) (-9) r) q.1 v)
def pcloseV (M : zI) (x : Int32) : Prop := iv 40000 x ∧ iv 1200 (pof M x 4) ∧ (puses M (pof M x 4) = 0 → ppendV M (pof M x 4) pfu ∧
  (¬ (ppend M (pof M x 4) pfu).1 = -9 → pushV (ppend M (pof M x 4) pfu).2 ∧ pexecV (ppush (ppend M (pof M x 4) pfu).2 14 (-9) (-9) (-9) (pof M x 4)) (ppend M (pof M x 4) pfu).1))
def pcomes (M : zI) (x v : Int32) : Int32 × zI :=
    if pof M x 0 = 1 then (1, pfocusOn (ppush M 2 (pof M x 1) (-9) (-9) v) (ppart (ppush M 2 (pof M x 1) (-9) (-9) v) (pof M x 1) 2) (pof (ppush M 2 (pof M x 1) (-9) (-9) v) x 2) (pof (ppush M 2 (pof M x 1) (-9) (-9) v) x 3)) else
    if pof M x 0 = 2 then (1, pbecome M (presult (pkind M (pof M x 1)) (pof M x 4) v)) else
    if pof M x 0 = 3 then (1, pfocusOn M (ppart M (pof M x 1) (if v = 0 then 3 else 2)) (pof M x 2) (pof M x 3)) else
    if pof M x 0 = 4 then (1, pfocusOn M (ppart M (pof M x 1) 2) (pof M x 2) (pof M x 3)) else
    if pof M x 0 = 5 then (1, pfocusOn (pbindTo M (pof M x 2) (parg M (pof M x 1)) v) (ppart M (pof M x 1) 2) (M 2 22) (pof M x 3)) else
    if pof M x 0 = 6 then (1, pbecome (ptrace0 M v) v) else
    if pof M x 0 = 7 then (1, pperf M (parg M (pof M x 1)) v) else
    if pof M x 0 = 9 then (1, if M 2 (7230 + tn (pof M x 4)) = 0 then pexec M x v else pbecome M v) else
    if pof M x 0 = 10 then (1, pcall M x v) else
    if pof M x 0 = 11 then presumes M (pof M x 4) v else
    if pof M x 0 = 12 then (1, pleave M x v) else
    if pof M x 0 = 13 then (1, pbecome M (pof M x 4)) else
    if pof M x 0 = 14 then pclose M x v else
    (1, pbecome M v)
theorem pcomes_1 {M : zI} {x v : Int32} (h : pof M x 0 = 1) : pcomes M x v = (1, pfocusOn (ppush M 2 (pof M x 1) (-9) (-9) v) (ppart (ppush M 2 (pof M x 1) (-9) (-9) v) (pof M x 1) 2) (pof (ppush M 2 (pof M x 1) (-9) (-9) v) x 2) (pof (ppush M 2 (pof M x 1) (-9) (-9) v) x 3)) := by
  unfold pcomes
  rw [h]
  rfl
theorem pcomes_2 {M : zI} {x v : Int32} (h : pof M x 0 = 2) : pcomes M x v = (1, pbecome M (presult (pkind M (pof M x 1)) (pof M x 4) v)) := by
  unfold pcomes
  rw [h]
  rfl
theorem pcomes_3 {M : zI} {x v : Int32} (h : pof M x 0 = 3) : pcomes M x v = (1, pfocusOn M (ppart M (pof M x 1) (if v = 0 then 3 else 2)) (pof M x 2) (pof M x 3)) := by
  unfold pcomes
  rw [h]
  rfl
theorem pcomes_4 {M : zI} {x v : Int32} (h : pof M x 0 = 4) : pcomes M x v = (1, pfocusOn M (ppart M (pof M x 1) 2) (pof M x 2) (pof M x 3)) := by
  unfold pcomes
  rw [h]
  rfl
theorem pcomes_5 {M : zI} {x v : Int32} (h : pof M x 0 = 5) : pcomes M x v = (1, pfocusOn (pbindTo M (pof M x 2) (parg M (pof M x 1)) v) (ppart M (pof M x 1) 2) (M 2 22) (pof M x 3)) := by
  unfold pcomes
  rw [h]
  rfl
theorem pcomes_6 {M : zI} {x v : Int32} (h : pof M x 0 = 6) : pcomes M x v = (1, pbecome (ptrace0 M v) v) := by
  unfold pcomes
  rw [h]
  rfl
theorem pcomes_7 {M : zI} {x v : Int32} (h : pof M x 0 = 7) : pcomes M x v = (1, pperf M (parg M (pof M x 1)) v) := by
  unfold pcomes
  rw [h]
  rfl
theorem pcomes_9 {M : zI} {x v : Int32} (h : pof M x 0 = 9) : pcomes M x v = (1, if M 2 (7230 + tn (pof M x 4)) = 0 then pexec M x v else pbecome M v) := by
  unfold pcomes
  rw [h]
  rfl
theorem pcomes_10 {M : zI} {x v : Int32} (h : pof M x 0 = 10) : pcomes M x v = (1, pcall M x v) := by
  unfold pcomes
  rw [h]
  rfl
theorem pcomes_11 {M : zI} {x v : Int32} (h : pof M x 0 = 11) : pcomes M x v = presumes M (pof M x 4) v := by
  unfold pcomes
  rw [h]
  rfl
theorem pcomes_12 {M : zI} {x v : Int32} (h : pof M x 0 = 12) : pcomes M x v = (1, pleave M x v) := by
  unfold pcomes
  rw [h]
  rfl
theorem pcomes_13 {M : zI} {x v : Int32} (h : pof M x 0 = 13) : pcomes M x v = (1, pbecome M (pof M x 4)) := by
  unfold pcomes
  rw [h]
  rfl
theorem pcomes_14 {M : zI} {x v : Int32} (h : pof M x 0 = 14) : pcomes M x v = pclose M x v := by
  unfold pcomes
  rw [h]
  rfl
theorem pcomes_8 {M : zI} {x v : Int32} (h : pof M x 0 = 8) : pcomes M x v = (1, pbecome M v) := by
  unfold pcomes
  rw [h]
  rfl
theorem zn01 {x : Int32} (h : x = 0 ∨ x = 1) : narrow .boolean (.int x) = .int x := by
  rcases h with rfl | rfl <;> rfl
theorem zite01 {α : Type} (a : Prop) [Decidable a] (x y : Int32 × α) (hx : x.1 = 0 ∨ x.1 = 1) (hy : y.1 = 0 ∨ y.1 = 1) : (if a then x else y).1 = 0 ∨ (if a then x else y).1 = 1 := by
  by_cases h : a
  · rw [if_pos h]; exact hx
  · rw [if_neg h]; exact hy
theorem presumes_01 (M : zI) (r v : Int32) : (presumes M r v).1 = 0 ∨ (presumes M r v).1 = 1 := zite01 _ _ _ (Or.inl rfl) (Or.inr rfl)
theorem pclose_01 (M : zI) (x v : Int32) : (pclose M x v).1 = 0 ∨ (pclose M x v).1 = 1 := zite01 _ _ _ (Or.inr rfl) (zite01 _ _ _ (Or.inl rfl) (Or.inr rfl))
theorem pcomes_01 (M : zI) (x v : Int32) : (pcomes M x v).1 = 0 ∨ (pcomes M x v).1 = 1 := by
  unfold pcomes
  repeat' (refine zite01 _ _ _ ?_ ?_)
  all_goals first | exact Or.inr rfl | exact Or.inl rfl | exact presumes_01 _ _ _ | exact pclose_01 _ _ _
def pcomesV (M : zI) (x : Int32) : Prop := iv 40000 x ∧ (pof M x 0 = 1 → iv 65000 (pof M x 1) ∧ pushV M ∧ tn x < tn (M 2 21)) ∧ (pof M x 0 = 2 ∨ pof M x 0 = 3 ∨ pof M x 0 = 4 → iv 65000 (pof M x 1)) ∧
  (pof M x 0 = 5 → iv 65000 (pof M x 1) ∧ iv 1200 (M 2 22)) ∧ (pof M x 0 = 6 → iv 61 (M 2 9)) ∧ (pof M x 0 = 7 → iv 65000 (pof M x 1) ∧ pperfV M (parg M (pof M x 1))) ∧
  (pof M x 0 = 9 → iv 1200 (pof M x 4) ∧ (M 2 (7230 + tn (pof M x 4)) = 0 → pexecV M x)) ∧ (pof M x 0 = 10 → pcallV M x) ∧ (pof M x 0 = 11 → presumesV M (pof M x 4)) ∧ (pof M x 0 = 12 → pleaveV M x) ∧ (pof M x 0 = 14 → pcloseV M x)
def pcl1 (M : zI) : zI := zup M 2 7 (pof M (M 2 7) 5)
def pcloses (M : zI) : Int32 × zI :=
  let q := pcomes (pcl1 M) (M 2 7) (pcl1 M 2 20)
  (q.1, zup q.2 2 7 (if q.1 = 0 then M 2 7 else q.2 2 7))
def pop1 (M : zI) : zI := let M1 := zup M 2 (7230 + tn (M 2 23)) 0; zup M1 2 23 (M1 2 23 + 1)
def popE (M : zI) : Int32 := if pkind M (M 2 17) = 14 then M 2 19 else 0
def popP (M : zI) (n x : Int32) : zI := let M2 := ppush M (pframeOf (pkind M n)) n (M 2 18) (M 2 19) x; zup M2 2 17 (ppart M2 n 1)
def popens (M : zI) : Int32 × zI :=
  if pkind M (M 2 17) = 0 then (1, pbecome M (parg M (M 2 17))) else if pkind M (M 2 17) = 1 then (1, pbecome M (pval M (parg M (M 2 17)))) else if pdepth M = 100 then (0, M) else
    (1, if pkind M (M 2 17) = 12 then popP (pop1 M) (M 2 17) (M 2 23) else popP M (M 2 17) (popE M))
def popensV (M : zI) : Prop := iv 65000 (M 2 17) ∧ (pkind M (M 2 17) = 1 → pvalV M (parg M (M 2 17)) 1201 (M 2 18)) ∧ vd 40000 (M 2 7) ∧ (pkind M (M 2 17) = 12 → iv 1200 (M 2 23)) ∧ iv 39999 (M 2 21)
def pstep (M : zI) : zI :=
  let q := if M 2 16 = 2 then popens M else pcloses M
  if q.1 = 0 then zup (zup q.2 2 5 4) 2 16 0 else pcheck (zup q.2 2 6 (q.2 2 6 + 1))
def pstepV (M : zI) : Prop := (M 2 16 = 2 → popensV M) ∧ (¬ M 2 16 = 2 → iv 40000 (M 2 7) ∧ pcomesV (pcl1 M) (M 2 7))
def prunA : Nat → zI → zI
  | 0, M => M
  | k + 1, M => if M 2 5 = 1 then prunA k (pstep M) else M
def prunV : Nat → zI → Prop
  | 0, _ => True
  | k + 1, M => M 2 5 = 1 → pstepV M ∧ prunV k (pstep M)
theorem zB_isIn {x : Int32} {a b : Nat} (ha : a < 2 ^ 31) (hb : b < 2 ^ 31) (h : ¬ x < nI a ∧ ¬ nI b < x) : ∃ n, a ≤ n ∧ n ≤ b ∧ x = nI n := by
  have h0 : ¬ x < 0 := fun q => h.1 (Int32.lt_of_lt_of_le q (nI_pos' ha))
  obtain ⟨n, h1, rfl⟩ := nI_of h0
  exact ⟨n, Nat.not_lt.mp (fun q => h.1 (nI_lt q ha)), Nat.not_lt.mp (fun q => h.2 (nI_lt q h1)), rfl⟩
def prun (M : zI) (x : Int32) : Int32 × zI := if x < 1 ∨ 200 < x then (-1, M) else if M 2 5 = 1 then (prunA (tn x) M 2 5, prunA (tn x) M) else (-2, M)
def panswer (M : zI) (v : Int32) : Int32 × zI := if M 2 5 = 3 then (let N := pcheck (pbecome (zup M 2 15 (-9)) v); (pdepth N, N)) else (-2, M)
def pdr1 (M : zI) : zI := zup (zup (pmakeRes M (M 2 7) (pdepth M)) 2 15 (-9)) 2 7 (-9)
def pdrop (M : zI) (v : Int32) : Int32 × zI := if M 2 5 = 3 then (pdepth M, pcheck (pbecome (ppush (pdr1 M) 14 (-9) (-9) (-9) (M 2 11)) v)) else (-2, M)
theorem pcheck_7 (M : zI) : pcheck M 2 7 = M 2 7 := by
  unfold pcheck
  split <;> rfl
