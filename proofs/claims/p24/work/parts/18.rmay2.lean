/-! The reference's call of may, in literal form. -/
def pczA : Nat → Nat → zI → zI
  | 0, _, M => M
  | j + 1, k, M => pczA j (k + 1) (zup (zup M 14 k 0) 15 k 0)
def pclear (M : zI) (x : Int32) : zI := if x = -9 then M else pczA (tn (M 11 (tn x)) - tn x) (tn x) M
def pcl5 : Nat → Nat → zI → zI
  | 0, _, M => M
  | j + 1, k, M => pcl5 j (k + 1) (pclear M (M 2 k))
def pgr5 : Nat → Nat → Int32 → zI → Int32 × zI
  | 0, _, b, M => (b, M)
  | j + 1, k, b, M => pgr5 j (k + 1) (b ||| (pgrow M (M 2 k)).1) (pgrow M (M 2 k)).2
def pmayL : Nat → zI → zI
  | 0, M => M
  | j + 1, M => if (pgr5 5 0 0 M).1 = 0 then (pgr5 5 0 0 M).2 else pmayL j (pgr5 5 0 0 M).2
def pmayT : Nat → zI → Prop
  | 0, _ => False
  | j + 1, M => ¬ (pgr5 5 0 0 M).1 = 0 → pmayT j (pgr5 5 0 0 M).2
/-- the rows that may reads but doesn't write -/
def psame (M N : zI) : Prop := ∀ r, r ≠ 14 → r ≠ 15 → N r = M r
theorem psame.rf {M : zI} : psame M M := fun _ _ _ => rfl
theorem psame.tr {M N P : zI} (h : psame M N) (k : psame N P) : psame M P := fun r h1 h2 => (k r h1 h2).trans (h r h1 h2)
theorem psame.z {M : zI} (a b : Nat) (u v : Int32) : psame M (zup (zup M 14 a u) 15 b v) := fun r h1 h2 => (zup_r h2).trans (zup_r h1)
theorem pczA_same : ∀ (j k : Nat) (M : zI), psame M (pczA j k M) := by
  intro j
  induction j with
  | zero => intro k M; exact psame.rf
  | succ j ih => intro k M; exact (psame.z _ _ _ _).tr (ih _ _)
theorem pclear_same (M : zI) (x : Int32) : psame M (pclear M x) := by
  unfold pclear
  split
  · exact psame.rf
  · exact pczA_same _ _ _
theorem pgrA_same (r0 : Nat) : ∀ (j : Nat) (b : Int32) (M : zI), psame M (pgrA r0 j b M).2 := by
  intro j
  induction j with
  | zero => intro b M; exact psame.rf
  | succ j ih => intro b M; exact (psame.z _ _ _ _).tr (ih _ _)
theorem pgrow_same (M : zI) (x : Int32) : psame M (pgrow M x).2 := by
  unfold pgrow
  split
  · exact psame.rf
  · exact pgrA_same _ _ _ _
theorem pcl5_same : ∀ (j k : Nat) (M : zI), psame M (pcl5 j k M) := by
  intro j
  induction j with
  | zero => intro k M; exact psame.rf
  | succ j ih => intro k M; exact (pclear_same _ _).tr (ih _ _)
theorem pgr5_same : ∀ (j k : Nat) (b : Int32) (M : zI), psame M (pgr5 j k b M).2 := by
  intro j
  induction j with
  | zero => intro k b M; exact psame.rf
  | succ j ih => intro k b M; exact (pgrow_same _ _).tr (ih _ _ _)
theorem pclA_same {M N : zI} (h : psame M N) {w : Int32} : ∀ {k : Nat} {c : Int32}, pclA N w k c = pclA M w k c := by
  intro k
  induction k with
  | zero => intro c; rfl
  | succ k ih =>
    intro c
    unfold pclA
    rw [h 1 (by decide) (by decide), ih]
theorem pclV_same {M N : zI} (h : psame M N) : ∀ {k : Nat} {c : Int32}, pclV N k c ↔ pclV M k c := by
  intro k
  induction k with
  | zero => intro c; exact Iff.rfl
  | succ k ih =>
    intro c
    unfold pclV
    rw [h 1 (by decide) (by decide), ih]
theorem plpV.same {M N : zI} (h : psame M N) {x : Int32} (k : plpV M x) : plpV N x := by
  refine ⟨k.1, ?_, fun w => ?_⟩
  · unfold pclOk
    rw [h 1 (by decide) (by decide)]
    exact (pclV_same h).mpr k.2.1
  · unfold pclause
    rw [pclA_same h, h 1 (by decide) (by decide)]
    exact k.2.2 w
theorem pnV.same {M N : zI} (h : psame M N) {x : Int32} (k : pnV M x) : pnV N x := by
  have e1 := h 1 (by decide) (by decide)
  have e2 := h 2 (by decide) (by decide)
  have ek : pkind N x = pkind M x := congrFun e1 _
  have ea : parg N x = parg M x := congrFun e1 _
  have ep : ∀ q, ppart N x q = ppart M x q := fun q => congrFun e1 _
  unfold pnV
  rw [ek, ea, e1, e2]
  simp only [ep]
  exact ⟨k.1, k.2.1, fun q => (k.2.2.1 q).same h, k.2.2.2.1, k.2.2.2.2.1, k.2.2.2.2.2⟩
theorem pgrV.same {M N : zI} (h : psame M N) {x : Int32} (k : pgrV M x) : pgrV N x := by
  intro hx
  rw [h 11 (by decide) (by decide)]
  obtain ⟨k1, k2, k3, k4⟩ := k hx
  exact ⟨k1, k2, k3, fun n h1 h2 => (k4 n h1 h2).same h⟩
def pallV (M : zI) : Prop := ∀ k, k < 5 → pgrV M (M 2 k)
theorem pallV.same {M N : zI} (h : psame M N) (k : pallV M) : pallV N := fun q hq => by
  rw [h 2 (by decide) (by decide)]
  exact (k q hq).same h
def pmayf : Nat := 40000
def proot (M : zI) (p : Int32) : Int32 := if p = -1 then M 2 0 else M 2 (1 + tn p)
def pmayM (M : zI) : zI := pmayL pmayf (pcl5 5 0 M)
def pmay (M : zI) (p a v : Int32) : Int32 × zI := if (p < -1 ∨ 3 < p) ∨ (a < 0 ∨ 5 < a) ∨ (v < 0 ∨ 3 < v) then (-1, M) else if proot M p = -9 then (-2, M) else (((pmayM M 14 (tn (proot M p))) >>> ((4 * a + v) &&& 31)) &&& 1, pmayM M)
def pmayV (M : zI) : Prop := pallV M ∧ pmayT pmayf (pcl5 5 0 M)
theorem zpm1 {p : Int32} (h : ¬ (p < -1 ∨ 3 < p)) (h1 : ¬ p = -1) (h2 : p < 0) : False := by
  apply h1
  have h3 := Int32.not_lt.mp (fun q => h (Or.inl q))
  rw [Int32.le_iff_toInt_le] at h3
  rw [Int32.lt_iff_toInt_lt] at h2
  have e1 : (-1 : Int32).toInt = -1 := by decide
  have e2 : (0 : Int32).toInt = 0 := by decide
  rw [e1] at h3
  rw [e2] at h2
  exact Int32.toInt_inj.mp (by rw [e1]; omega)
