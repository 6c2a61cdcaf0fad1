/-! A run as it is seen between two calls; what is told of it, in both. -/
/-- nothing was begun -/
def R0 (b0 n0 : Nat) (X : zCt) (R : zRf) (C : zI) : Prop := CO b0 n0 X R C ∧ BO b0 n0 X R ∧ (C 17 2 = 0 ∧ (qM X) 2 5 = 0) ∧ (C 17 3 = 0 ∧ (qM X) 2 6 = 0) ∧ nD X = 0 ∧ R 17 0 = none
def UC (b : Nat) (C : zI) : Prop := ∀ r, ∃ u, u ≤ b ∧ C 22 r = nI u
def RQ (b0 n0 : Nat) (X : zCt) (R : zRf) (C : zI) (b : Nat) : Prop := (RN b0 n0 X R C ∨ R0 b0 n0 X R C) ∧ DM C ∧ UC b C ∧ OP (qM X)
theorem RQ.base {b0 n0 b : Nat} {X : zCt} {R : zRf} {C : zI} (h : RQ b0 n0 X R C b) : CO b0 n0 X R C ∧ BO b0 n0 X R ∧ C 17 2 = (qM X) 2 5 ∧ C 17 3 = (qM X) 2 6 := by
  rcases h.1 with ⟨h1, h2, h3, st, -, h4, h5, -⟩ | ⟨h1, h2, ⟨h3, h4⟩, ⟨h5, h6⟩, -⟩
  · exact ⟨h1, h2, h3, h4.trans h5.symm⟩
  · exact ⟨h1, h2, h3.trans h4.symm, h5.trans h6.symm⟩
/-- the cases of a run, by its state -/
theorem RQ.cases {b0 n0 b : Nat} {X : zCt} {R : zRf} {C : zI} (h : RQ b0 n0 X R C b) : (qM X) 2 5 = 0 ∨ (∃ st, (qM X) 2 5 = 1 ∧ (RN1 X R C st ∨ RN2 X R C st)) ∨ ((qM X) 2 5 = 2 ∧ RN3 X R C) ∨ (∃ st, (qM X) 2 5 = 3 ∧ RN4 X R C st ∧ st ≤ 1000 ∧ C 17 3 = nI st ∧ (qM X) 2 6 = nI st) ∨ (qM X) 2 5 = 4 ∨ (qM X) 2 5 = 5 := by
  rcases h.1 with ⟨-, -, -, st, h4, h5, h6, h | h | h | h | h | h⟩ | ⟨-, -, ⟨-, h4⟩, -⟩
  · exact Or.inr (Or.inl ⟨st, h.1, Or.inl h⟩)
  · exact Or.inr (Or.inl ⟨st, h.1, Or.inr h⟩)
  · exact Or.inr (Or.inr (Or.inl ⟨h.1, h⟩))
  · exact Or.inr (Or.inr (Or.inr (Or.inl ⟨st, h.1, h, h4, h5, h6⟩)))
  · exact Or.inr (Or.inr (Or.inr (Or.inr (Or.inl h.1))))
  · exact Or.inr (Or.inr (Or.inr (Or.inr (Or.inr h.1))))
  · exact Or.inl h4
theorem RQ.defs {b0 n0 : Nat} {X : zCt} {R : zRf} (h : BO b0 n0 X R) (hN : nN X ≤ 65000) : ∀ j k x, j + k = 4 → bcdA R j k x = pdfA (qM X) j k x := by
  intro j
  induction j with
  | zero => intro k x _; rfl
  | succ j ih =>
    intro k x hk
    show bcdA R j (k + 1) (if R 18 k = none then x else x + 1) = pdfA (qM X) j (k + 1) (x + (if (qM X) 2 (1 + k) = -9 then 0 else 1))
    rw [ih (k + 1) _ (by omega)]
    congr 1
    rcases h.2 k (by omega) with ⟨h1, h2⟩ | ⟨n, a, h1, h2, -, h3, -⟩
    · rw [if_pos h1, if_pos h2]; exact (Int32.add_zero x).symm
    · rw [if_neg (by rw [h3]; exact fun z => by cases z), if_neg (by rw [h2]; exact (iv_nI (N := 65000) (by omega) (by decide)).nn (by decide))]
theorem RQ.told {b0 n0 b : Nat} {X : zCt} {R : zRf} {C : zI} (h : RQ b0 n0 X R C b) (h11 : C 0 1 = (qM X) 0 8) (x : Int32) : btold R C x = ptold (qM X) x := by
  obtain ⟨hC, hB, e0, e1⟩ := h.base
  have hd := hC.depth
  have hN := hC.1.1
  have c := hC.2.2.2.2.1
  have e10 : (if C 17 2 = 3 then C 17 7 else -9) = (qM X) 2 15 := by
    by_cases q : C 17 2 = 3
    · rw [if_pos q]
      have q' := e0.symm.trans q
      rcases h.cases with z | ⟨_, z, _⟩ | ⟨z, _⟩ | ⟨_, _, z, _⟩ | z | z
      · exact absurd (z.symm.trans q') (by decide)
      · exact absurd (z.symm.trans q') (by decide)
      · exact absurd (z.symm.trans q') (by decide)
      · exact z.2.2.2.2.1
      · exact absurd (z.symm.trans q') (by decide)
      · exact absurd (z.symm.trans q') (by decide)
    · rw [if_neg q]
      exact (h.2.2.2.resolve_left (fun z => q (e0.trans z))).symm
  obtain ⟨k, k1, k2, k3, -⟩ := c.2.2.2.2.2.2.2.2.1
  unfold btold ptold
  rw [e10, e0, e1, h11, RQ.defs hB hN 4 0 0 rfl, c.1.1, hd, c.1.2, k2, k3, c.2.2.2.2.2.2.2.2.2.1, c.2.2.1.1, c.2.2.1.2, c.2.2.2.2.2.2.2.1.1, c.2.2.2.2.2.2.2.1.2.1, c.2.2.2.2.2.2.2.1.2.2]
theorem RQ.value {b0 n0 b : Nat} {X : zCt} {R : zRf} {C : zI} (h : RQ b0 n0 X R C b) : bvalue R C = pvalue (qM X) := by
  obtain ⟨hC, hB, e0, e1⟩ := h.base
  unfold bvalue pvalue
  rw [e0]
  rcases h.cases with z | ⟨st, z, z1 | z1⟩ | ⟨z, z1⟩ | ⟨st, z, z1, _⟩ | z | z <;> rw [z]
  · rfl
  · rw [if_pos (Or.inr (Or.inr ⟨rfl, z1.2.2.2.2.1⟩)), if_pos (Or.inr (Or.inr ⟨rfl, z1.2.2.1⟩))]
    exact z1.2.2.2.2.2.1
  · obtain ⟨n, -, -, -, z4, -⟩ := z1.2.2.2.1
    rw [if_neg (fun q => by
      rcases q with q | q | ⟨-, q⟩
      · exact absurd q (by decide)
      · exact absurd q (by decide)
      · rw [z4] at q; cases q), if_neg (fun q => by
      rcases q with q | q | ⟨-, q⟩
      · exact absurd q (by decide)
      · exact absurd q (by decide)
      · rw [z1.2.2.1] at q; exact absurd q (by decide))]
  · exact z1.2.2.2.2
  · exact z1.2.2.2.1
  · rfl
  · rfl
theorem RQ.focus {b0 n0 b : Nat} {X : zCt} {R : zRf} {C : zI} (h : RQ b0 n0 X R C b) : bfocus R C = pfocus (qM X) := by
  obtain ⟨hC, hB, e0, e1⟩ := h.base
  unfold bfocus pfocus
  rw [e0]
  rcases h.cases with z | ⟨st, z, z1 | z1⟩ | ⟨z, z1⟩ | ⟨st, z, z1, _⟩ | z | z <;> rw [z]
  · rfl
  · rw [if_pos rfl, if_pos rfl, if_pos z1.2.2.2.2.1]; exact z1.2.2.1.symm
  · obtain ⟨n, -, -, -, z4, -⟩ := z1.2.2.2.1
    rw [if_pos rfl, if_pos rfl, z4]; exact z1.2.2.1.symm
  · rfl
  · rfl
  · rfl
  · rfl
theorem tn_of {x : Int32} {n : Nat} (h0 : ¬ x < 0) (hn : n < 2 ^ 31) (h : x < nI n) : tn x < n ∧ x = nI (tn x) := by
  have h1 := Int32.lt_iff_toInt_lt.mp h
  have h2 : 0 ≤ x.toInt := by
    rcases Int.lt_or_le x.toInt 0 with q | q
    · exact absurd (Int32.lt_iff_toInt_lt.mpr (by simpa using q)) h0
    · exact q
  have h3 : (nI n).toInt = n := Int32.toInt_ofNat_of_lt hn
  have h4 : tn x < n := by
    show x.toInt.toNat < n
    omega
  refine ⟨h4, ?_⟩
  apply Int32.toInt_inj.mp
  have e : (nI (tn x)).toInt = (tn x : Nat) := Int32.toInt_ofNat_of_lt (show tn x < 2 ^ 31 by omega)
  rw [e]
  show x.toInt = ((x.toInt.toNat : Nat) : Int)
  omega
theorem RQ.trace {b0 n0 b : Nat} {X : zCt} {R : zRf} {C : zI} (h : RQ b0 n0 X R C b) (x : Int32) : btrace C x = ptrace (qM X) x ∧ iv 61 (C 17 11) ∧ iv 61 ((qM X) 2 9) := by
  obtain ⟨hC, hB, e0, e1⟩ := h.base
  obtain ⟨k, k1, k2, k3, k4⟩ := hC.2.2.2.2.1.2.2.2.2.2.2.2.2.1
  refine ⟨?_, by rw [k2]; exact iv_nI (by omega) (by decide), by rw [k3]; exact iv_nI (by omega) (by decide)⟩
  unfold btrace ptrace
  rw [k2, k3]
  by_cases q : x < 0
  · rw [if_pos q, if_pos q]
  · rw [if_neg q, if_neg q]
    by_cases q2 : x < nI k
    · rw [if_pos q2, if_pos q2]
      exact k4 _ (tn_of q (by omega) q2).1
    · rw [if_neg q2, if_neg q2]
theorem lt_sub {x : Int32} {a : Nat} (ha : a < 2 ^ 31 - 1) : (nI a < x) = ¬ (x < nI (a + 1)) := by
  apply propext
  have e1 : (nI a).toInt = (a : Nat) := Int32.toInt_ofNat_of_lt (show a < 2 ^ 31 by omega)
  have e2 : (nI (a + 1)).toInt = (a + 1 : Nat) := Int32.toInt_ofNat_of_lt (show a + 1 < 2 ^ 31 by omega)
  rw [Int32.lt_iff_toInt_lt, Int32.lt_iff_toInt_lt, e1, e2]
  omega
theorem op_of (x : Int32) : (¬ x < 0 ∧ x < 6) ↔ ¬ (x < 0 ∨ 5 < x) := by
  have : (5 < x) = ¬ x < 6 := lt_sub (a := 5) (by decide)
  rw [this]
  exact ⟨fun q z => z.elim q.1 (fun z => z q.2), fun q => ⟨fun z => q (Or.inl z), Classical.byContradiction (fun z => q (Or.inr z))⟩⟩
theorem RQ.perfd {b0 n0 b : Nat} {X : zCt} {R : zRf} {C : zI} (h : RQ b0 n0 X R C b) (x : Int32) : bperfd C x = pperfd (qM X) x := by
  obtain ⟨hC, hB, e0, e1⟩ := h.base
  unfold bperfd pperfd
  by_cases q : ¬ x < 0 ∧ x < 6
  · rw [if_pos q, if_neg ((op_of x).mp q)]
    exact hC.2.2.2.2.1.2.2.2.2.2.2.2.2.2.2 _ (tn_of (n := 6) q.1 (by decide) q.2).1
  · rw [if_neg q, if_pos (Classical.byContradiction (fun z => q ((op_of x).mpr z)))]
set_option maxHeartbeats 1000000 in
theorem RQ.handler {b0 n0 c b d : Nat} {X : zCt} {R : zRf} {C : zI} (h : RQ b0 n0 X R C b) (hc : c + 27 ≤ n0) (hd : nD X = d) (x : Int32) : bhandler (qg X) R (qf X) C x d = (if x < 0 ∨ 5 < x then -1 else if (phand (qM X) x).1 = -9 then -9 else (phand (qM X) x).2) ∧ bphV (qg X) (qf X) c (R 20) d ∧ phV (qM X) 101 ((qM X) 2 7) := by
  obtain ⟨hC, hB, e0, e1⟩ := h.base
  obtain ⟨g, f, M, t, ⟨sg, el, rg, ci, mz, fi⟩, ⟨d0, nv, nr, nf, np⟩⟩ := X
  obtain rfl : d0 = d := hd
  have hd100 : d0 ≤ 100 := hC.2.2.2.1.1
  have d1 : C 19 1 = nI d0 := hC.2.2.2.2.1.1.1
  have h7 : M 2 7 = (if d0 = 0 then -9 else nI (fi (d0 - 1))) := hC.2.2.2.1.2.1
  have hH := fun (a0 : Nat) (ha : a0 < 6) => hC.hand hc ha d0 (Nat.le_refl _) 101 (by omega) 0
  show _ ∧ bphV g f c (R 20) d0 ∧ phV M 101 (M 2 7)
  rw [h7]
  refine ⟨?_, (hH 0 (by decide)).2.1, (hH 0 (by decide)).1⟩
  show bhandler g R f C x d0 = (if x < 0 ∨ 5 < x then -1 else if (phand M x).1 = -9 then -9 else (phand M x).2)
  unfold bhandler
  by_cases q : ¬ x < 0 ∧ x < 6
  · rw [if_pos q, if_neg ((op_of x).mp q)]
    obtain ⟨q1, q2⟩ := tn_of (n := 6) q.1 (by decide) q.2
    obtain ⟨-, -, hh⟩ := hH (tn x) q1
    have e : phand M x = phA M (nI (tn x)) 101 0 (if d0 = 0 then -9 else nI (fi (d0 - 1))) (nI (d0 - d0)) := by
      unfold phand
      rw [h7, ← q2, Nat.sub_self]
      rfl
    rw [e, ← q2]
    rw [← q2] at hh
    rcases hh with ⟨a1, a2⟩ | ⟨p, x', a1, a2, a3, -, -, a4, -⟩
    · rw [a1, a2, if_pos (by decide), if_pos rfl]
    · have hnp : np ≤ 39800 := hC.2.2.2.2.2.2.2.2
      rw [a2, a3, if_neg (nI_pos (by omega)), if_neg ((iv_nI (N := 40000) (by omega) (by decide)).nn (by decide)), d1]
      show nI d0 - 1 - nI p = nI (d0 - 1 - p)
      rw [show nI d0 - 1 = nI (d0 - 1) from ixS (a := d0) (b := 1) rfl (ixC 1) (by omega)]
      exact ixS rfl rfl (by omega)
  · rw [if_neg q, if_pos (Classical.byContradiction (fun z => q ((op_of x).mpr z)))]
