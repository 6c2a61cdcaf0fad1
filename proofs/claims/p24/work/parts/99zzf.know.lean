/-! What the tables' words say: classes, arrays, calls between nest mates. -/
theorem u_of {s : State} {args : Array Value} (hts : ∀ w ∈ zTbl, w.before args s = true) {ci : Nat} {C : String} {T : u_T} {N n : Nat} (h : zCls ci C T N) (hi : Cond.instantiable C n ∈ zTbl) : ∃ p : Nat × (Nat → Nat), ∀ q : vw_C, vwCl[ci]? = some q → u_Kn s q.1 q.2.1 q.2.2 p.1 p.2 := by
  obtain ⟨cC, iS, h'⟩ := u_known hts h.2.2.2.1 (hts _ hi)
  refine ⟨(cC, iS), fun q hq => ?_⟩
  rw [h.1] at hq
  cases hq
  exact h'
theorem ar_of {s : State} {args : Array Value} {C : String} (h : (Cond.arrayOver (.object C)).before args s = true) : ∃ cA : Nat, ArrOfT s cA (.object C) ∧ va_RA s cA (.object C) := by
  obtain ⟨comp, cA, kA, f4, -, f2, f3, f1⟩ := Cond.arrayOver_spec h
  exact ⟨cA, fun N z => ⟨(fun k h => by cases h), kA, f2, comp, f3⟩, kA, comp, f2, f3, f4, f1⟩
theorem ai_of {s : State} {args : Array Value} (h : (Cond.arrayClass .int).before args s = true) : ∃ cA : Nat, ArrOfT s cA .int ∧ va_RA s cA .int := by
  obtain ⟨cA, kA, comp, f1, f2, f3⟩ := Cond.arrayClass_spec h
  exact ⟨cA, fun N z => ⟨(fun k h => by cases h), kA, f2, comp, f3⟩, f1⟩
def ztyl : List FieldType := [.int, .object RX1, .object RX2, .object RX0, .object RX8, .object RX7]
theorem zK.of {s : State} {args : Array Value} {b N : Nat} {xs : Nat → Int32} (hts : ∀ w ∈ lw_tbl, w.before args s = true) (hX : va_X b N xs s s.heap) (hb : b < s.heap.size) (hN : N ≤ 260) : ∃ D : zD, zK D s.heap.size s ∧ D.2.2 = (b, N, xs) := by
  have hz : ∀ w ∈ zTbl, w.before args s = true := fun w hw => hts w (List.mem_filter.mp hw).1
  have h1 : ∀ c : Nat, ∃ p : Nat × (Nat → Nat), ∀ q : vw_C, vwCl[c]? = some q → u_Kn s q.1 q.2.1 q.2.2 p.1 p.2 := fun c => match c with
    | 0 => u_of hz zcls_X0 zi_RX0
    | 1 => u_of hz zcls_X1 zi_RX1
    | 2 => u_of hz zcls_X2 zi_RX2
    | 3 => u_of hz zcls_X3 zi_RX3
    | 4 => u_of hz zcls_X4 zi_RX4
    | 5 => u_of hz zcls_X5 zi_RX5
    | 6 => u_of hz zcls_X6 zi_RX6
    | 7 => u_of hz zcls_X7 zi_RX7
    | 8 => u_of hz zcls_X8 zi_RX8
    | 9 => u_of hz zcls_X9 zi_RX9
    | 10 => u_of hz zcls_X10 zi_RX10
    | 11 => u_of hz zcls_X11 zi_RX11
    | c + 12 => ⟨(0, fun _ => 0), fun q hq => by
        have : c + 12 < 12 := (List.getElem?_eq_some_iff.mp hq).1
        omega⟩
  have h2 : ∀ k : Nat, ∃ cA : Nat, ∀ ty : FieldType, ztyl[k]? = some ty → ArrOfT s cA ty ∧ va_RA s cA ty := fun k => match k with
    | 0 => (ai_of (hz _ zac_int)).imp fun cA h ty e => by cases e; exact h
    | 1 => (ar_of (hts _ zov_RX1)).imp fun cA h ty e => by cases e; exact h
    | 2 => (ar_of (hts _ zov_RX2)).imp fun cA h ty e => by cases e; exact h
    | 3 => (ar_of (hts _ zov_RX0)).imp fun cA h ty e => by cases e; exact h
    | 4 => (ar_of (hts _ zov_RX8)).imp fun cA h ty e => by cases e; exact h
    | 5 => (ar_of (hts _ zov_RX7)).imp fun cA h ty e => by cases e; exact h
    | k + 6 => ⟨0, fun q hq => by
        have : k + 6 < 6 := (List.getElem?_eq_some_iff.mp hq).1
        omega⟩
  refine ⟨((fun c => (Classical.choose (h1 c)).1, fun c => (Classical.choose (h1 c)).2), (fun k => Classical.choose (h2 k), (b, N, xs))), ⟨⟨fun c q hq => Classical.choose_spec (h1 c) q hq, fun k q hq => ?_⟩, fun w hw => va_Nw.of (zNest_on w hw) (hts w (zNest_in w hw)), fun q hq => ?_, hX, hb, hN⟩, rfl⟩
  · have e : ztyl[k]? = some q.2 ∧ q.1 = Classical.choose (h2 k) := by
      have hk : k < 6 := (List.getElem?_eq_some_iff.mp hq).1
      have hks : k = 0 ∨ k = 1 ∨ k = 2 ∨ k = 3 ∨ k = 4 ∨ k = 5 := by omega
      rcases hks with rfl | rfl | rfl | rfl | rfl | rfl <;> (cases hq; exact ⟨rfl, rfl⟩)
    rw [e.2]
    exact Classical.choose_spec (h2 k) q.2 e.1
  · simp only [zOver, List.mem_cons, List.not_mem_nil, or_false] at hq
    rcases hq with rfl | rfl | rfl | rfl | rfl
    · exact va_AO.of (hts _ zov_RX1)
    · exact va_AO.of (hts _ (by first | exact zov_RX0 | exact zov_RX1 | exact zov_RX2 | exact zov_RX7 | exact zov_RX8))
    · exact va_AO.of (hts _ (by first | exact zov_RX0 | exact zov_RX1 | exact zov_RX2 | exact zov_RX7 | exact zov_RX8))
    · exact va_AO.of (hts _ (by first | exact zov_RX0 | exact zov_RX1 | exact zov_RX2 | exact zov_RX7 | exact zov_RX8))
    · exact va_AO.of (hts _ zov_RX8)
