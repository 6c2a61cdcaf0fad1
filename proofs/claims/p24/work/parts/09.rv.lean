/-! The reference's state as one table M: row 0 its fields, row j its array at o + j. -/
def rv (o : Nat) (f : zI) (M : zI) : zI := fun b => if o ≤ b ∧ b < o + 20 then M (b - o) else f b
theorem rv_at {o : Nat} {f M : zI} {j : Nat} (h : j < 20) : rv o f M (o + j) = M j := by
  unfold rv
  rw [if_pos ⟨Nat.le_add_right _ _, by omega⟩, Nat.add_sub_cancel_left]
theorem rv_0 {o : Nat} {f M : zI} : rv o f M o = M 0 := rv_at (j := 0) (by decide)
theorem rv_out {o : Nat} {f M : zI} {b : Nat} (h : ¬ (o ≤ b ∧ b < o + 20)) : rv o f M b = f b := if_neg h
theorem rv_st {o : Nat} {f M : zI} {j k : Nat} {x : Int32} (h : j < 20) : zup (rv o f M) (o + j) k x = rv o f (zup M j k x) := by
  funext b q
  unfold zup rv
  by_cases h1 : b = o + j
  · subst h1
    simp [h]
  · rw [if_neg h1]
    by_cases h2 : o ≤ b ∧ b < o + 20
    · rw [if_pos h2, if_pos h2]
      show M (b - o) q = if b - o = j then (if q = k then x else M (b - o) q) else M (b - o) q
      rw [if_neg (by omega)]
    · rw [if_neg h2, if_neg h2]
theorem rv_id {o : Nat} {f : zI} : rv o f (fun j => f (o + j)) = f := by
  funext b
  unfold rv
  by_cases h2 : o ≤ b ∧ b < o + 20
  · rw [if_pos h2]
    show f (o + (b - o)) = f b
    rw [show o + (b - o) = b by omega]
  · rw [if_neg h2]
def tn (x : Int32) : Nat := x.toNatClampNeg
theorem tn_nI {n : Nat} (h : n < 2 ^ 31) : tn (nI n) = n := nI_clamp h
/-- an index below N -/
def iv (N : Nat) (x : Int32) : Prop := tn x < N ∧ x = nI (tn x)
theorem iv.lt {N : Nat} {x : Int32} (h : iv N x) : tn x < N := h.1
theorem iv.eq {N : Nat} {x : Int32} (h : iv N x) : x = nI (tn x) := h.2
theorem iv_nI {N n : Nat} (h : n < N) (hN : N ≤ 2 ^ 31) : iv N (nI n) := by
  have e := tn_nI (Nat.lt_of_lt_of_le h hN)
  exact ⟨by rw [e]; exact h, by rw [e]⟩
theorem iv.mono {N N' : Nat} {x : Int32} (h : iv N x) (k : N ≤ N') : iv N' x := ⟨Nat.lt_of_lt_of_le h.1 k, h.2⟩
theorem iv.nn {N : Nat} {x : Int32} (h : iv N x) (hN : N ≤ 2 ^ 31) : ¬ x = -9 := by
  intro e
  have h1 := h.1
  have h2 := h.2
  rw [e] at h2
  exact absurd h2 (by decide)
def vd (N : Nat) (x : Int32) : Prop := x = -9 ∨ iv N x
theorem vd.iv {N : Nat} {x : Int32} (h : vd N x) (k : ¬ x = -9) : iv N x := h.resolve_left k
theorem ixA {x y : Int32} {a b : Nat} (hx : x = nI a) (hy : y = nI b) : x + y = nI (a + b) := by rw [hx, hy, nI_add]
theorem ixM {x y : Int32} {a b : Nat} (hx : x = nI a) (hy : y = nI b) : x * y = nI (a * b) := by rw [hx, hy, pk_mul]
theorem ixS {x y : Int32} {a b : Nat} (hx : x = nI a) (hy : y = nI b) (h : b ≤ a) : x - y = nI (a - b) := by rw [hx, hy, pk_sub h]
section ZRV
variable {l : Launch} {d : Nat} {D : zD} {b0 : Nat} {mi : zMI} {cs ns pc : Nat} {L : List (Option Value)} {st rest : List Value} {g : zG} {f M : zI} {o : Nat} {Q : Nat → Nat → zKT → Prop}
theorem zr_ld {i fk j n k : Nat} {e : Int32} (hW : RW b0 g o) (hi : rT[i]? = some (fk, j, n)) (hj : j < 20) (hn : n < 2 ^ 31) (he : e = nI k) (hk : k < n) (hd : decode mi.2.1 pc = .ok (.iaload, 1)) (kk : zS l d D b0 mi cs ns (pc + 1) L (.int (M j k) :: st) g (rv o f M) Q) : zS l d D b0 mi cs ns pc L (.int e :: .ref (o + j) :: st) g (rv o f M) Q := by
  refine z_ialdE (hW.i i hi) (hW.l i hi) he hk hn hd ?_
  rw [rv_at hj]
  exact kk
theorem zr_st {i fk j n k : Nat} {e x : Int32} (hW : RW b0 g o) (hi : rT[i]? = some (fk, j, n)) (hj : j < 20) (hn : n < 2 ^ 31) (he : e = nI k) (hk : k < n) (hd : decode mi.2.1 pc = .ok (.iastore, 1)) (kk : zS l d D b0 mi cs ns (pc + 1) L st g (rv o f (zup M j k x)) Q) : zS l d D b0 mi cs ns pc L (.int x :: .int e :: .ref (o + j) :: st) g (rv o f M) Q := by
  refine z_iastE (hW.i i hi) (hW.l i hi) he hk hn hd ?_
  rw [rv_st hj]
  exact kk
theorem zr_getI {idx k : Nat} {ty : FieldType} {fin : Bool} (hf : zFl mi.1.cls idx 12 k ty fin 99) (hW : RW b0 g o) (hd : decode mi.2.1 pc = .ok (.getfield idx, 3)) (kk : zS l d D b0 mi cs ns (pc + 3) L (.int (M 0 k) :: st) g (rv o f M) Q) : zS l d D b0 mi cs ns pc L (.ref o :: st) g (rv o f M) Q := by
  refine z_getI hf hW.o hd ?_
  rw [rv_0]
  exact kk
theorem zr_putI {idx k : Nat} {ty : FieldType} {x : Int32} (hf : zFl mi.1.cls idx 12 k ty false 99) (hW : RW b0 g o) (hd : decode mi.2.1 pc = .ok (.putfield idx, 3)) (kk : zS l d D b0 mi cs ns (pc + 3) L st g (rv o f (zup M 0 k x)) Q) (hn : narrow ty (.int x) = .int x := by rfl) (hfit : fits ty (.int x) = true := by rfl) : zS l d D b0 mi cs ns pc L (.int x :: .ref o :: st) g (rv o f M) Q := by
  refine z_putI hf hW.o hd ?_ hn hfit
  have e : zup (rv o f M) o k x = rv o f (zup M 0 k x) := rv_st (j := 0) (by decide)
  rw [e]
  exact kk
end ZRV
theorem ixC (n : Nat) : (Int32.ofNat n) = nI n := rfl
