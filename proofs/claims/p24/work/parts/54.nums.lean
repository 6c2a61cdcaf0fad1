/-! Numbers of a run that change, one by one. -/
theorem CO.fin {b0 n0 : Nat} {g : zG} {f M : zI} {t : zTs} {y : zGs} {d nv nr nf np : Nat} {R : zRf} {C : zI} (hf : nf < 1000) (h : CO b0 n0 (g, f, M, t, y, (d, nv, nr, nf, np)) R C) : CO b0 n0 (g, f, zup (zup M 2 (7230 + nf) 0) 2 23 (nI (nf + 1)), t, y, (d, nv, nr, nf + 1, np)) R (zup (zup C 23 nf 0) 21 5 (nI (nf + 1))) := by
  have hbd : nv ≤ 1100 ∧ nr ≤ 1000 ∧ nf ≤ 1000 ∧ np ≤ 39800 := h.2.2.2.2.2
  obtain ⟨⟨c1, c2⟩, c3, ⟨c4, c5⟩, ⟨c6, c7⟩, c8, c9, c10, ⟨c11, c12, c13⟩, ⟨q, q1, q2, q3, q4⟩, c14, c15⟩ := h.2.2.2.2.1
  have z1 : (zup (zup M 2 (7230 + nf) 0) 2 23 (nI (nf + 1))) 1 = M 1 := by simp only [zup_r (show (1 : Nat) ≠ 2 by decide)]
  have z4 : (zup (zup M 2 (7230 + nf) 0) 2 23 (nI (nf + 1))) 4 = M 4 := by simp only [zup_r (show (4 : Nat) ≠ 2 by decide)]
  have w : ∀ j, j ≠ 23 ∧ j ≠ 7230 + nf → (zup (zup M 2 (7230 + nf) 0) 2 23 (nI (nf + 1))) 2 j = M 2 j := by
    intro j hj
    rw [zup_ne _ _ _ _ (by omega), zup_ne _ _ _ _ (by omega)]
  have h25 : (zup (zup C 23 nf 0) 21 5 (nI (nf + 1))) 25 = C 25 := by simp only [zup_r (show (25 : Nat) ≠ 21 by decide), zup_r (show (25 : Nat) ≠ 23 by decide)]
  have hcP : bcntP (zup (zup C 23 nf 0) 21 5 (nI (nf + 1))) = bcntP C := by unfold bcntP; rw [h25]
  refine h.num z1 z4 (fun j a b => w j (by omega)) (fun r hr j hj => w _ (by omega)) (w 7 (by omega)) (Nat.le_succ _) (hf) ⟨⟨?_, ?_⟩, ?_, ⟨?_, ?_⟩, ⟨?_, ?_⟩, ?_, fun r hr => ?_, fun j hj => ?_, ⟨?_, ?_, ?_⟩, ?_, ?_, fun a ha => ?_⟩
  · show (zup (zup C 23 nf 0) 21 5 (nI (nf + 1))) 19 1 = nI d; rw [zup_ne _ _ _ _ (by omega), zup_ne _ _ _ _ (by omega)]; exact c1
  · show (zup (zup C 23 nf 0) 21 5 (nI (nf + 1))) 19 2 = (zup (zup M 2 (7230 + nf) 0) 2 23 (nI (nf + 1))) 2 8; rw [zup_ne _ _ _ _ (by omega), zup_ne _ _ _ _ (by omega), w _ (by omega)]; exact c2
  · show (zup (zup M 2 (7230 + nf) 0) 2 23 (nI (nf + 1))) 2 22 = nI nv; rw [w _ (by omega)]; exact c3
  · show (zup (zup M 2 (7230 + nf) 0) 2 23 (nI (nf + 1))) 2 11 = nI nr; rw [w _ (by omega)]; exact c4
  · show (zup (zup C 23 nf 0) 21 5 (nI (nf + 1))) 21 1 = nI nr; rw [zup_ne _ _ _ _ (by omega), zup_ne _ _ _ _ (by omega)]; exact c5
  · show (zup (zup M 2 (7230 + nf) 0) 2 23 (nI (nf + 1))) 2 23 = nI (nf + 1); exact zup_at _ _ _ _
  · show (zup (zup C 23 nf 0) 21 5 (nI (nf + 1))) 21 5 = nI (nf + 1); exact zup_at _ _ _ _
  · show (zup (zup M 2 (7230 + nf) 0) 2 23 (nI (nf + 1))) 2 21 = nI np; rw [w _ (by omega)]; exact c8
  · have hr : r < nr := hr; show (zup (zup C 23 nf 0) 21 5 (nI (nf + 1))) 22 r = (zup (zup M 2 (7230 + nf) 0) 2 23 (nI (nf + 1))) 2 (3630 + 3 * r + 2); rw [zup_ne _ _ _ _ (by omega), zup_ne _ _ _ _ (by omega), w _ (by omega)]; exact c9 r hr
  · have hj : j < nf + 1 := hj
    show (zup (zup C 23 nf 0) 21 5 (nI (nf + 1))) 23 j = (zup (zup M 2 (7230 + nf) 0) 2 23 (nI (nf + 1))) 2 (7230 + j)
    by_cases e : j = nf
    · subst e
      rw [zup_ne _ _ _ _ (by omega), zup_at, zup_ne _ _ _ _ (by omega), zup_at]
    · rw [zup_ne _ _ _ _ (by omega), zup_ne _ _ _ _ (by omega), w _ (by omega)]
      exact c10 j (by show j < nf; omega)
  · show (zup (zup C 23 nf 0) 21 5 (nI (nf + 1))) 21 2 = (zup (zup M 2 (7230 + nf) 0) 2 23 (nI (nf + 1))) 2 12; rw [zup_ne _ _ _ _ (by omega), zup_ne _ _ _ _ (by omega), w _ (by omega)]; exact c11
  · show (zup (zup C 23 nf 0) 21 5 (nI (nf + 1))) 21 3 = (zup (zup M 2 (7230 + nf) 0) 2 23 (nI (nf + 1))) 2 13; rw [zup_ne _ _ _ _ (by omega), zup_ne _ _ _ _ (by omega), w _ (by omega)]; exact c12
  · show (zup (zup C 23 nf 0) 21 5 (nI (nf + 1))) 21 6 = (zup (zup M 2 (7230 + nf) 0) 2 23 (nI (nf + 1))) 2 14; rw [zup_ne _ _ _ _ (by omega), zup_ne _ _ _ _ (by omega), w _ (by omega)]; exact c13
  · show ∃ n, n ≤ 60 ∧ (zup (zup C 23 nf 0) 21 5 (nI (nf + 1))) 17 11 = nI n ∧ (zup (zup M 2 (7230 + nf) 0) 2 23 (nI (nf + 1))) 2 9 = nI n ∧ ∀ i, i < n → (zup (zup C 23 nf 0) 21 5 (nI (nf + 1))) 24 i = (zup (zup M 2 (7230 + nf) 0) 2 23 (nI (nf + 1))) 2 (8430 + i); refine ⟨q, q1, by rw [zup_ne _ _ _ _ (by omega), zup_ne _ _ _ _ (by omega)]; exact q2, by rw [w _ (by omega)]; exact q3, fun i hi => ?_⟩; rw [zup_ne _ _ _ _ (by omega), zup_ne _ _ _ _ (by omega), w _ (by omega)]; exact q4 i hi
  · show (zup (zup M 2 (7230 + nf) 0) 2 23 (nI (nf + 1))) 2 10 = bcntP (zup (zup C 23 nf 0) 21 5 (nI (nf + 1))); rw [hcP, w _ (by omega)]; exact c14
  · show (zup (zup C 23 nf 0) 21 5 (nI (nf + 1))) 25 a = (zup (zup M 2 (7230 + nf) 0) 2 23 (nI (nf + 1))) 2 (24 + a); rw [zup_ne _ _ _ _ (by omega), zup_ne _ _ _ _ (by omega), w _ (by omega)]; exact c15 a ha
theorem CO.exec {b0 n0 : Nat} {g : zG} {f M : zI} {t : zTs} {y : zGs} {d nv nr nf np : Nat} {R : zRf} {C : zI} (k0 : Nat) (hk : k0 < nf) (h : CO b0 n0 (g, f, M, t, y, (d, nv, nr, nf, np)) R C) : CO b0 n0 (g, f, zup (zup M 2 (7230 + k0) 1) 2 14 (M 2 14 + 1), t, y, (d, nv, nr, nf, np)) R (zup (zup C 21 6 (C 21 6 + 1)) 23 k0 1) := by
  have hbd : nv ≤ 1100 ∧ nr ≤ 1000 ∧ nf ≤ 1000 ∧ np ≤ 39800 := h.2.2.2.2.2
  obtain ⟨⟨c1, c2⟩, c3, ⟨c4, c5⟩, ⟨c6, c7⟩, c8, c9, c10, ⟨c11, c12, c13⟩, ⟨q, q1, q2, q3, q4⟩, c14, c15⟩ := h.2.2.2.2.1
  have z1 : (zup (zup M 2 (7230 + k0) 1) 2 14 (M 2 14 + 1)) 1 = M 1 := by simp only [zup_r (show (1 : Nat) ≠ 2 by decide)]
  have z4 : (zup (zup M 2 (7230 + k0) 1) 2 14 (M 2 14 + 1)) 4 = M 4 := by simp only [zup_r (show (4 : Nat) ≠ 2 by decide)]
  have w : ∀ j, j ≠ 14 ∧ j ≠ 7230 + k0 → (zup (zup M 2 (7230 + k0) 1) 2 14 (M 2 14 + 1)) 2 j = M 2 j := by
    intro j hj
    rw [zup_ne _ _ _ _ (by omega), zup_ne _ _ _ _ (by omega)]
  have h25 : (zup (zup C 21 6 (C 21 6 + 1)) 23 k0 1) 25 = C 25 := by simp only [zup_r (show (25 : Nat) ≠ 23 by decide), zup_r (show (25 : Nat) ≠ 21 by decide)]
  have hcP : bcntP (zup (zup C 21 6 (C 21 6 + 1)) 23 k0 1) = bcntP C := by unfold bcntP; rw [h25]
  refine h.num z1 z4 (fun j a b => w j (by omega)) (fun r hr j hj => w _ (by omega)) (w 7 (by omega)) (Nat.le_refl _) (hbd.2.2.1) ⟨⟨?_, ?_⟩, ?_, ⟨?_, ?_⟩, ⟨?_, ?_⟩, ?_, fun r hr => ?_, fun j hj => ?_, ⟨?_, ?_, ?_⟩, ?_, ?_, fun a ha => ?_⟩
  · show (zup (zup C 21 6 (C 21 6 + 1)) 23 k0 1) 19 1 = nI d; rw [zup_ne _ _ _ _ (by omega), zup_ne _ _ _ _ (by omega)]; exact c1
  · show (zup (zup C 21 6 (C 21 6 + 1)) 23 k0 1) 19 2 = (zup (zup M 2 (7230 + k0) 1) 2 14 (M 2 14 + 1)) 2 8; rw [zup_ne _ _ _ _ (by omega), zup_ne _ _ _ _ (by omega), w _ (by omega)]; exact c2
  · show (zup (zup M 2 (7230 + k0) 1) 2 14 (M 2 14 + 1)) 2 22 = nI nv; rw [w _ (by omega)]; exact c3
  · show (zup (zup M 2 (7230 + k0) 1) 2 14 (M 2 14 + 1)) 2 11 = nI nr; rw [w _ (by omega)]; exact c4
  · show (zup (zup C 21 6 (C 21 6 + 1)) 23 k0 1) 21 1 = nI nr; rw [zup_ne _ _ _ _ (by omega), zup_ne _ _ _ _ (by omega)]; exact c5
  · show (zup (zup M 2 (7230 + k0) 1) 2 14 (M 2 14 + 1)) 2 23 = nI nf; rw [w _ (by omega)]; exact c6
  · show (zup (zup C 21 6 (C 21 6 + 1)) 23 k0 1) 21 5 = nI nf; rw [zup_ne _ _ _ _ (by omega), zup_ne _ _ _ _ (by omega)]; exact c7
  · show (zup (zup M 2 (7230 + k0) 1) 2 14 (M 2 14 + 1)) 2 21 = nI np; rw [w _ (by omega)]; exact c8
  · have hr : r < nr := hr; show (zup (zup C 21 6 (C 21 6 + 1)) 23 k0 1) 22 r = (zup (zup M 2 (7230 + k0) 1) 2 14 (M 2 14 + 1)) 2 (3630 + 3 * r + 2); rw [zup_ne _ _ _ _ (by omega), zup_ne _ _ _ _ (by omega), w _ (by omega)]; exact c9 r hr
  · have hj : j < nf := hj
    show (zup (zup C 21 6 (C 21 6 + 1)) 23 k0 1) 23 j = (zup (zup M 2 (7230 + k0) 1) 2 14 (M 2 14 + 1)) 2 (7230 + j)
    by_cases e : j = k0
    · subst e
      rw [zup_at, zup_ne _ _ _ _ (by omega), zup_at]
    · rw [zup_ne _ _ _ _ (by omega), zup_ne _ _ _ _ (by omega), w _ (by omega)]
      exact c10 j hj
  · show (zup (zup C 21 6 (C 21 6 + 1)) 23 k0 1) 21 2 = (zup (zup M 2 (7230 + k0) 1) 2 14 (M 2 14 + 1)) 2 12; rw [zup_ne _ _ _ _ (by omega), zup_ne _ _ _ _ (by omega), w _ (by omega)]; exact c11
  · show (zup (zup C 21 6 (C 21 6 + 1)) 23 k0 1) 21 3 = (zup (zup M 2 (7230 + k0) 1) 2 14 (M 2 14 + 1)) 2 13; rw [zup_ne _ _ _ _ (by omega), zup_ne _ _ _ _ (by omega), w _ (by omega)]; exact c12
  · show (zup (zup C 21 6 (C 21 6 + 1)) 23 k0 1) 21 6 = (zup (zup M 2 (7230 + k0) 1) 2 14 (M 2 14 + 1)) 2 14
    have c13 : C 21 6 = M 2 14 := c13
    rw [zup_ne _ _ _ _ (by omega), zup_at, zup_at, c13]
  · show ∃ n, n ≤ 60 ∧ (zup (zup C 21 6 (C 21 6 + 1)) 23 k0 1) 17 11 = nI n ∧ (zup (zup M 2 (7230 + k0) 1) 2 14 (M 2 14 + 1)) 2 9 = nI n ∧ ∀ i, i < n → (zup (zup C 21 6 (C 21 6 + 1)) 23 k0 1) 24 i = (zup (zup M 2 (7230 + k0) 1) 2 14 (M 2 14 + 1)) 2 (8430 + i); refine ⟨q, q1, by rw [zup_ne _ _ _ _ (by omega), zup_ne _ _ _ _ (by omega)]; exact q2, by rw [w _ (by omega)]; exact q3, fun i hi => ?_⟩; rw [zup_ne _ _ _ _ (by omega), zup_ne _ _ _ _ (by omega), w _ (by omega)]; exact q4 i hi
  · show (zup (zup M 2 (7230 + k0) 1) 2 14 (M 2 14 + 1)) 2 10 = bcntP (zup (zup C 21 6 (C 21 6 + 1)) 23 k0 1); rw [hcP, w _ (by omega)]; exact c14
  · show (zup (zup C 21 6 (C 21 6 + 1)) 23 k0 1) 25 a = (zup (zup M 2 (7230 + k0) 1) 2 14 (M 2 14 + 1)) 2 (24 + a); rw [zup_ne _ _ _ _ (by omega), zup_ne _ _ _ _ (by omega), w _ (by omega)]; exact c15 a ha
theorem CO.emit {b0 n0 : Nat} {g : zG} {f M : zI} {t : zTs} {y : zGs} {d nv nr nf np : Nat} {R : zRf} {C : zI} (v : Int32) (k0 : Nat) (hk : k0 < 60) (hC : C 17 11 = nI k0) (h : CO b0 n0 (g, f, M, t, y, (d, nv, nr, nf, np)) R C) : CO b0 n0 (g, f, zup (zup M 2 (8430 + k0) v) 2 9 (nI (k0 + 1)), t, y, (d, nv, nr, nf, np)) R (zup (zup C 24 k0 v) 17 11 (nI (k0 + 1))) := by
  have hbd : nv ≤ 1100 ∧ nr ≤ 1000 ∧ nf ≤ 1000 ∧ np ≤ 39800 := h.2.2.2.2.2
  obtain ⟨⟨c1, c2⟩, c3, ⟨c4, c5⟩, ⟨c6, c7⟩, c8, c9, c10, ⟨c11, c12, c13⟩, ⟨q, q1, q2, q3, q4⟩, c14, c15⟩ := h.2.2.2.2.1
  obtain rfl : k0 = q := (nI_eq (by omega) (by omega)).mp (hC.symm.trans q2)
  have z1 : (zup (zup M 2 (8430 + k0) v) 2 9 (nI (k0 + 1))) 1 = M 1 := by simp only [zup_r (show (1 : Nat) ≠ 2 by decide)]
  have z4 : (zup (zup M 2 (8430 + k0) v) 2 9 (nI (k0 + 1))) 4 = M 4 := by simp only [zup_r (show (4 : Nat) ≠ 2 by decide)]
  have w : ∀ j, j ≠ 9 ∧ j ≠ 8430 + k0 → (zup (zup M 2 (8430 + k0) v) 2 9 (nI (k0 + 1))) 2 j = M 2 j := by
    intro j hj
    rw [zup_ne _ _ _ _ (by omega), zup_ne _ _ _ _ (by omega)]
  have h25 : (zup (zup C 24 k0 v) 17 11 (nI (k0 + 1))) 25 = C 25 := by simp only [zup_r (show (25 : Nat) ≠ 17 by decide), zup_r (show (25 : Nat) ≠ 24 by decide)]
  have hcP : bcntP (zup (zup C 24 k0 v) 17 11 (nI (k0 + 1))) = bcntP C := by unfold bcntP; rw [h25]
  refine h.num z1 z4 (fun j a b => w j (by omega)) (fun r hr j hj => w _ (by omega)) (w 7 (by omega)) (Nat.le_refl _) (hbd.2.2.1) ⟨⟨?_, ?_⟩, ?_, ⟨?_, ?_⟩, ⟨?_, ?_⟩, ?_, fun r hr => ?_, fun j hj => ?_, ⟨?_, ?_, ?_⟩, ?_, ?_, fun a ha => ?_⟩
  · show (zup (zup C 24 k0 v) 17 11 (nI (k0 + 1))) 19 1 = nI d; rw [zup_ne _ _ _ _ (by omega), zup_ne _ _ _ _ (by omega)]; exact c1
  · show (zup (zup C 24 k0 v) 17 11 (nI (k0 + 1))) 19 2 = (zup (zup M 2 (8430 + k0) v) 2 9 (nI (k0 + 1))) 2 8; rw [zup_ne _ _ _ _ (by omega), zup_ne _ _ _ _ (by omega), w _ (by omega)]; exact c2
  · show (zup (zup M 2 (8430 + k0) v) 2 9 (nI (k0 + 1))) 2 22 = nI nv; rw [w _ (by omega)]; exact c3
  · show (zup (zup M 2 (8430 + k0) v) 2 9 (nI (k0 + 1))) 2 11 = nI nr; rw [w _ (by omega)]; exact c4
  · show (zup (zup C 24 k0 v) 17 11 (nI (k0 + 1))) 21 1 = nI nr; rw [zup_ne _ _ _ _ (by omega), zup_ne _ _ _ _ (by omega)]; exact c5
  · show (zup (zup M 2 (8430 + k0) v) 2 9 (nI (k0 + 1))) 2 23 = nI nf; rw [w _ (by omega)]; exact c6
  · show (zup (zup C 24 k0 v) 17 11 (nI (k0 + 1))) 21 5 = nI nf; rw [zup_ne _ _ _ _ (by omega), zup_ne _ _ _ _ (by omega)]; exact c7
  · show (zup (zup M 2 (8430 + k0) v) 2 9 (nI (k0 + 1))) 2 21 = nI np; rw [w _ (by omega)]; exact c8
  · have hr : r < nr := hr; show (zup (zup C 24 k0 v) 17 11 (nI (k0 + 1))) 22 r = (zup (zup M 2 (8430 + k0) v) 2 9 (nI (k0 + 1))) 2 (3630 + 3 * r + 2); rw [zup_ne _ _ _ _ (by omega), zup_ne _ _ _ _ (by omega), w _ (by omega)]; exact c9 r hr
  · have hj : j < nf := hj; show (zup (zup C 24 k0 v) 17 11 (nI (k0 + 1))) 23 j = (zup (zup M 2 (8430 + k0) v) 2 9 (nI (k0 + 1))) 2 (7230 + j); rw [zup_ne _ _ _ _ (by omega), zup_ne _ _ _ _ (by omega), w _ (by omega)]; exact c10 j hj
  · show (zup (zup C 24 k0 v) 17 11 (nI (k0 + 1))) 21 2 = (zup (zup M 2 (8430 + k0) v) 2 9 (nI (k0 + 1))) 2 12; rw [zup_ne _ _ _ _ (by omega), zup_ne _ _ _ _ (by omega), w _ (by omega)]; exact c11
  · show (zup (zup C 24 k0 v) 17 11 (nI (k0 + 1))) 21 3 = (zup (zup M 2 (8430 + k0) v) 2 9 (nI (k0 + 1))) 2 13; rw [zup_ne _ _ _ _ (by omega), zup_ne _ _ _ _ (by omega), w _ (by omega)]; exact c12
  · show (zup (zup C 24 k0 v) 17 11 (nI (k0 + 1))) 21 6 = (zup (zup M 2 (8430 + k0) v) 2 9 (nI (k0 + 1))) 2 14; rw [zup_ne _ _ _ _ (by omega), zup_ne _ _ _ _ (by omega), w _ (by omega)]; exact c13
  · show ∃ n, n ≤ 60 ∧ (zup (zup C 24 k0 v) 17 11 (nI (k0 + 1))) 17 11 = nI n ∧ (zup (zup M 2 (8430 + k0) v) 2 9 (nI (k0 + 1))) 2 9 = nI n ∧ ∀ i, i < n → (zup (zup C 24 k0 v) 17 11 (nI (k0 + 1))) 24 i = (zup (zup M 2 (8430 + k0) v) 2 9 (nI (k0 + 1))) 2 (8430 + i)
    refine ⟨k0 + 1, by omega, zup_at _ _ _ _, zup_at _ _ _ _, fun j hj => ?_⟩
    by_cases e : j = k0
    · subst e
      rw [zup_ne _ _ _ _ (by omega), zup_at, zup_ne _ _ _ _ (by omega), zup_at]
    · rw [zup_ne _ _ _ _ (by omega), zup_ne _ _ _ _ (by omega), w _ (by omega)]
      exact q4 j (by omega)
  · show (zup (zup M 2 (8430 + k0) v) 2 9 (nI (k0 + 1))) 2 10 = bcntP (zup (zup C 24 k0 v) 17 11 (nI (k0 + 1))); rw [hcP, w _ (by omega)]; exact c14
  · show (zup (zup C 24 k0 v) 17 11 (nI (k0 + 1))) 25 a = (zup (zup M 2 (8430 + k0) v) 2 9 (nI (k0 + 1))) 2 (24 + a); rw [zup_ne _ _ _ _ (by omega), zup_ne _ _ _ _ (by omega), w _ (by omega)]; exact c15 a ha
theorem CO.perf {b0 n0 : Nat} {g : zG} {f M : zI} {t : zTs} {y : zGs} {d nv nr nf np : Nat} {R : zRf} {C : zI} (a0 : Nat) (ha0 : a0 < 6) (h : CO b0 n0 (g, f, M, t, y, (d, nv, nr, nf, np)) R C) : CO b0 n0 (g, f, zup (zup M 2 10 (M 2 10 + 1)) 2 (24 + a0) (M 2 (24 + a0) + 1), t, y, (d, nv, nr, nf, np)) R (zup C 25 a0 (C 25 a0 + 1)) := by
  have hbd : nv ≤ 1100 ∧ nr ≤ 1000 ∧ nf ≤ 1000 ∧ np ≤ 39800 := h.2.2.2.2.2
  obtain ⟨⟨c1, c2⟩, c3, ⟨c4, c5⟩, ⟨c6, c7⟩, c8, c9, c10, ⟨c11, c12, c13⟩, ⟨q, q1, q2, q3, q4⟩, c14, c15⟩ := h.2.2.2.2.1
  have c15a : C 25 a0 = M 2 (24 + a0) := c15 a0 ha0
  have z1 : (zup (zup M 2 10 (M 2 10 + 1)) 2 (24 + a0) (M 2 (24 + a0) + 1)) 1 = M 1 := by simp only [zup_r (show (1 : Nat) ≠ 2 by decide)]
  have z4 : (zup (zup M 2 10 (M 2 10 + 1)) 2 (24 + a0) (M 2 (24 + a0) + 1)) 4 = M 4 := by simp only [zup_r (show (4 : Nat) ≠ 2 by decide)]
  have w : ∀ j, j ≠ 10 ∧ j ≠ 24 + a0 → (zup (zup M 2 10 (M 2 10 + 1)) 2 (24 + a0) (M 2 (24 + a0) + 1)) 2 j = M 2 j := by
    intro j hj
    rw [zup_ne _ _ _ _ (by omega), zup_ne _ _ _ _ (by omega)]
  refine h.num z1 z4 (fun j a b => w j (by omega)) (fun r hr j hj => w _ (by omega)) (w 7 (by omega)) (Nat.le_refl _) (hbd.2.2.1) ⟨⟨?_, ?_⟩, ?_, ⟨?_, ?_⟩, ⟨?_, ?_⟩, ?_, fun r hr => ?_, fun j hj => ?_, ⟨?_, ?_, ?_⟩, ?_, ?_, fun a ha => ?_⟩
  · show (zup C 25 a0 (C 25 a0 + 1)) 19 1 = nI d; rw [zup_ne _ _ _ _ (by omega)]; exact c1
  · show (zup C 25 a0 (C 25 a0 + 1)) 19 2 = (zup (zup M 2 10 (M 2 10 + 1)) 2 (24 + a0) (M 2 (24 + a0) + 1)) 2 8; rw [zup_ne _ _ _ _ (by omega), w _ (by omega)]; exact c2
  · show (zup (zup M 2 10 (M 2 10 + 1)) 2 (24 + a0) (M 2 (24 + a0) + 1)) 2 22 = nI nv; rw [w _ (by omega)]; exact c3
  · show (zup (zup M 2 10 (M 2 10 + 1)) 2 (24 + a0) (M 2 (24 + a0) + 1)) 2 11 = nI nr; rw [w _ (by omega)]; exact c4
  · show (zup C 25 a0 (C 25 a0 + 1)) 21 1 = nI nr; rw [zup_ne _ _ _ _ (by omega)]; exact c5
  · show (zup (zup M 2 10 (M 2 10 + 1)) 2 (24 + a0) (M 2 (24 + a0) + 1)) 2 23 = nI nf; rw [w _ (by omega)]; exact c6
  · show (zup C 25 a0 (C 25 a0 + 1)) 21 5 = nI nf; rw [zup_ne _ _ _ _ (by omega)]; exact c7
  · show (zup (zup M 2 10 (M 2 10 + 1)) 2 (24 + a0) (M 2 (24 + a0) + 1)) 2 21 = nI np; rw [w _ (by omega)]; exact c8
  · have hr : r < nr := hr; show (zup C 25 a0 (C 25 a0 + 1)) 22 r = (zup (zup M 2 10 (M 2 10 + 1)) 2 (24 + a0) (M 2 (24 + a0) + 1)) 2 (3630 + 3 * r + 2); rw [zup_ne _ _ _ _ (by omega), w _ (by omega)]; exact c9 r hr
  · have hj : j < nf := hj; show (zup C 25 a0 (C 25 a0 + 1)) 23 j = (zup (zup M 2 10 (M 2 10 + 1)) 2 (24 + a0) (M 2 (24 + a0) + 1)) 2 (7230 + j); rw [zup_ne _ _ _ _ (by omega), w _ (by omega)]; exact c10 j hj
  · show (zup C 25 a0 (C 25 a0 + 1)) 21 2 = (zup (zup M 2 10 (M 2 10 + 1)) 2 (24 + a0) (M 2 (24 + a0) + 1)) 2 12; rw [zup_ne _ _ _ _ (by omega), w _ (by omega)]; exact c11
  · show (zup C 25 a0 (C 25 a0 + 1)) 21 3 = (zup (zup M 2 10 (M 2 10 + 1)) 2 (24 + a0) (M 2 (24 + a0) + 1)) 2 13; rw [zup_ne _ _ _ _ (by omega), w _ (by omega)]; exact c12
  · show (zup C 25 a0 (C 25 a0 + 1)) 21 6 = (zup (zup M 2 10 (M 2 10 + 1)) 2 (24 + a0) (M 2 (24 + a0) + 1)) 2 14; rw [zup_ne _ _ _ _ (by omega), w _ (by omega)]; exact c13
  · show ∃ n, n ≤ 60 ∧ (zup C 25 a0 (C 25 a0 + 1)) 17 11 = nI n ∧ (zup (zup M 2 10 (M 2 10 + 1)) 2 (24 + a0) (M 2 (24 + a0) + 1)) 2 9 = nI n ∧ ∀ i, i < n → (zup C 25 a0 (C 25 a0 + 1)) 24 i = (zup (zup M 2 10 (M 2 10 + 1)) 2 (24 + a0) (M 2 (24 + a0) + 1)) 2 (8430 + i); refine ⟨q, q1, by rw [zup_ne _ _ _ _ (by omega)]; exact q2, by rw [w _ (by omega)]; exact q3, fun i hi => ?_⟩; rw [zup_ne _ _ _ _ (by omega), w _ (by omega)]; exact q4 i hi
  · show (zup (zup M 2 10 (M 2 10 + 1)) 2 (24 + a0) (M 2 (24 + a0) + 1)) 2 10 = bcntP (zup C 25 a0 (C 25 a0 + 1))
    have c14 : M 2 10 = bcntP C := c14
    rw [zup_ne _ _ _ _ (by omega), zup_at, c14]
    have hs : a0 = 0 ∨ a0 = 1 ∨ a0 = 2 ∨ a0 = 3 ∨ a0 = 4 ∨ a0 = 5 := by omega
    unfold bcntP
    rcases hs with rfl | rfl | rfl | rfl | rfl | rfl <;> simp [zup] <;> ac_rfl
  · show (zup C 25 a0 (C 25 a0 + 1)) 25 a = (zup (zup M 2 10 (M 2 10 + 1)) 2 (24 + a0) (M 2 (24 + a0) + 1)) 2 (24 + a)
    by_cases e : a = a0
    · subst e
      rw [zup_at, zup_at, c15a]
    · rw [zup_ne _ _ _ _ (by omega), w _ (by omega)]
      exact c15 a ha
theorem CO.use {b0 n0 : Nat} {g : zG} {f M : zI} {t : zTs} {y : zGs} {d nv nr nf np : Nat} {R : zRf} {C : zI} (r0 : Nat) (hr0 : r0 < nr) (z : Int32) (hz : z = (if M 2 (3630 + 3 * r0 + 2) + 1 = 2 then 1 else 0)) (h : CO b0 n0 (g, f, M, t, y, (d, nv, nr, nf, np)) R C) : CO b0 n0 (g, f, zup (zup (zup M 2 (3630 + 3 * r0 + 2) (M 2 (3630 + 3 * r0 + 2) + 1)) 2 12 (M 2 12 + 1)) 2 13 (M 2 13 + z), t, y, (d, nv, nr, nf, np)) R (zup (zup (zup C 21 2 (C 21 2 + 1)) 22 r0 (C 22 r0 + 1)) 21 3 (C 21 3 + z)) := by
  have hbd : nv ≤ 1100 ∧ nr ≤ 1000 ∧ nf ≤ 1000 ∧ np ≤ 39800 := h.2.2.2.2.2
  obtain ⟨⟨c1, c2⟩, c3, ⟨c4, c5⟩, ⟨c6, c7⟩, c8, c9, c10, ⟨c11, c12, c13⟩, ⟨q, q1, q2, q3, q4⟩, c14, c15⟩ := h.2.2.2.2.1
  have c9a : C 22 r0 = M 2 (3630 + 3 * r0 + 2) := c9 r0 hr0
  have z1 : (zup (zup (zup M 2 (3630 + 3 * r0 + 2) (M 2 (3630 + 3 * r0 + 2) + 1)) 2 12 (M 2 12 + 1)) 2 13 (M 2 13 + z)) 1 = M 1 := by simp only [zup_r (show (1 : Nat) ≠ 2 by decide)]
  have z4 : (zup (zup (zup M 2 (3630 + 3 * r0 + 2) (M 2 (3630 + 3 * r0 + 2) + 1)) 2 12 (M 2 12 + 1)) 2 13 (M 2 13 + z)) 4 = M 4 := by simp only [zup_r (show (4 : Nat) ≠ 2 by decide)]
  have w : ∀ j, j ≠ 12 ∧ j ≠ 13 ∧ j ≠ 3630 + 3 * r0 + 2 → (zup (zup (zup M 2 (3630 + 3 * r0 + 2) (M 2 (3630 + 3 * r0 + 2) + 1)) 2 12 (M 2 12 + 1)) 2 13 (M 2 13 + z)) 2 j = M 2 j := by
    intro j hj
    rw [zup_ne _ _ _ _ (by omega), zup_ne _ _ _ _ (by omega), zup_ne _ _ _ _ (by omega)]
  have h25 : (zup (zup (zup C 21 2 (C 21 2 + 1)) 22 r0 (C 22 r0 + 1)) 21 3 (C 21 3 + z)) 25 = C 25 := by simp only [zup_r (show (25 : Nat) ≠ 21 by decide), zup_r (show (25 : Nat) ≠ 22 by decide), zup_r (show (25 : Nat) ≠ 21 by decide)]
  have hcP : bcntP (zup (zup (zup C 21 2 (C 21 2 + 1)) 22 r0 (C 22 r0 + 1)) 21 3 (C 21 3 + z)) = bcntP C := by unfold bcntP; rw [h25]
  refine h.num z1 z4 (fun j a b => w j (by omega)) (fun r hr j hj => w _ (by omega)) (w 7 (by omega)) (Nat.le_refl _) (hbd.2.2.1) ⟨⟨?_, ?_⟩, ?_, ⟨?_, ?_⟩, ⟨?_, ?_⟩, ?_, fun r hr => ?_, fun j hj => ?_, ⟨?_, ?_, ?_⟩, ?_, ?_, fun a ha => ?_⟩
  · show (zup (zup (zup C 21 2 (C 21 2 + 1)) 22 r0 (C 22 r0 + 1)) 21 3 (C 21 3 + z)) 19 1 = nI d; rw [zup_ne _ _ _ _ (by omega), zup_ne _ _ _ _ (by omega), zup_ne _ _ _ _ (by omega)]; exact c1
  · show (zup (zup (zup C 21 2 (C 21 2 + 1)) 22 r0 (C 22 r0 + 1)) 21 3 (C 21 3 + z)) 19 2 = (zup (zup (zup M 2 (3630 + 3 * r0 + 2) (M 2 (3630 + 3 * r0 + 2) + 1)) 2 12 (M 2 12 + 1)) 2 13 (M 2 13 + z)) 2 8; rw [zup_ne _ _ _ _ (by omega), zup_ne _ _ _ _ (by omega), zup_ne _ _ _ _ (by omega), w _ (by omega)]; exact c2
  · show (zup (zup (zup M 2 (3630 + 3 * r0 + 2) (M 2 (3630 + 3 * r0 + 2) + 1)) 2 12 (M 2 12 + 1)) 2 13 (M 2 13 + z)) 2 22 = nI nv; rw [w _ (by omega)]; exact c3
  · show (zup (zup (zup M 2 (3630 + 3 * r0 + 2) (M 2 (3630 + 3 * r0 + 2) + 1)) 2 12 (M 2 12 + 1)) 2 13 (M 2 13 + z)) 2 11 = nI nr; rw [w _ (by omega)]; exact c4
  · show (zup (zup (zup C 21 2 (C 21 2 + 1)) 22 r0 (C 22 r0 + 1)) 21 3 (C 21 3 + z)) 21 1 = nI nr; rw [zup_ne _ _ _ _ (by omega), zup_ne _ _ _ _ (by omega), zup_ne _ _ _ _ (by omega)]; exact c5
  · show (zup (zup (zup M 2 (3630 + 3 * r0 + 2) (M 2 (3630 + 3 * r0 + 2) + 1)) 2 12 (M 2 12 + 1)) 2 13 (M 2 13 + z)) 2 23 = nI nf; rw [w _ (by omega)]; exact c6
  · show (zup (zup (zup C 21 2 (C 21 2 + 1)) 22 r0 (C 22 r0 + 1)) 21 3 (C 21 3 + z)) 21 5 = nI nf; rw [zup_ne _ _ _ _ (by omega), zup_ne _ _ _ _ (by omega), zup_ne _ _ _ _ (by omega)]; exact c7
  · show (zup (zup (zup M 2 (3630 + 3 * r0 + 2) (M 2 (3630 + 3 * r0 + 2) + 1)) 2 12 (M 2 12 + 1)) 2 13 (M 2 13 + z)) 2 21 = nI np; rw [w _ (by omega)]; exact c8
  · have hr : r < nr := hr
    show (zup (zup (zup C 21 2 (C 21 2 + 1)) 22 r0 (C 22 r0 + 1)) 21 3 (C 21 3 + z)) 22 r = (zup (zup (zup M 2 (3630 + 3 * r0 + 2) (M 2 (3630 + 3 * r0 + 2) + 1)) 2 12 (M 2 12 + 1)) 2 13 (M 2 13 + z)) 2 (3630 + 3 * r + 2)
    by_cases e : r = r0
    · subst e
      rw [zup_ne _ _ _ _ (by omega), zup_at, zup_ne _ _ _ _ (by omega), zup_ne _ _ _ _ (by omega), zup_at, c9a]
    · rw [zup_ne _ _ _ _ (by omega), zup_ne _ _ _ _ (by omega), zup_ne _ _ _ _ (by omega), w _ (by omega)]
      exact c9 r hr
  · have hj : j < nf := hj; show (zup (zup (zup C 21 2 (C 21 2 + 1)) 22 r0 (C 22 r0 + 1)) 21 3 (C 21 3 + z)) 23 j = (zup (zup (zup M 2 (3630 + 3 * r0 + 2) (M 2 (3630 + 3 * r0 + 2) + 1)) 2 12 (M 2 12 + 1)) 2 13 (M 2 13 + z)) 2 (7230 + j); rw [zup_ne _ _ _ _ (by omega), zup_ne _ _ _ _ (by omega), zup_ne _ _ _ _ (by omega), w _ (by omega)]; exact c10 j hj
  · show (zup (zup (zup C 21 2 (C 21 2 + 1)) 22 r0 (C 22 r0 + 1)) 21 3 (C 21 3 + z)) 21 2 = (zup (zup (zup M 2 (3630 + 3 * r0 + 2) (M 2 (3630 + 3 * r0 + 2) + 1)) 2 12 (M 2 12 + 1)) 2 13 (M 2 13 + z)) 2 12
    have c11 : C 21 2 = M 2 12 := c11
    rw [zup_ne _ _ _ _ (by omega), zup_ne _ _ _ _ (by omega), zup_at, zup_ne _ _ _ _ (by omega), zup_at, c11]
  · show (zup (zup (zup C 21 2 (C 21 2 + 1)) 22 r0 (C 22 r0 + 1)) 21 3 (C 21 3 + z)) 21 3 = (zup (zup (zup M 2 (3630 + 3 * r0 + 2) (M 2 (3630 + 3 * r0 + 2) + 1)) 2 12 (M 2 12 + 1)) 2 13 (M 2 13 + z)) 2 13
    have c12 : C 21 3 = M 2 13 := c12
    rw [zup_at, zup_at, c12]
  · show (zup (zup (zup C 21 2 (C 21 2 + 1)) 22 r0 (C 22 r0 + 1)) 21 3 (C 21 3 + z)) 21 6 = (zup (zup (zup M 2 (3630 + 3 * r0 + 2) (M 2 (3630 + 3 * r0 + 2) + 1)) 2 12 (M 2 12 + 1)) 2 13 (M 2 13 + z)) 2 14; rw [zup_ne _ _ _ _ (by omega), zup_ne _ _ _ _ (by omega), zup_ne _ _ _ _ (by omega), w _ (by omega)]; exact c13
  · show ∃ n, n ≤ 60 ∧ (zup (zup (zup C 21 2 (C 21 2 + 1)) 22 r0 (C 22 r0 + 1)) 21 3 (C 21 3 + z)) 17 11 = nI n ∧ (zup (zup (zup M 2 (3630 + 3 * r0 + 2) (M 2 (3630 + 3 * r0 + 2) + 1)) 2 12 (M 2 12 + 1)) 2 13 (M 2 13 + z)) 2 9 = nI n ∧ ∀ i, i < n → (zup (zup (zup C 21 2 (C 21 2 + 1)) 22 r0 (C 22 r0 + 1)) 21 3 (C 21 3 + z)) 24 i = (zup (zup (zup M 2 (3630 + 3 * r0 + 2) (M 2 (3630 + 3 * r0 + 2) + 1)) 2 12 (M 2 12 + 1)) 2 13 (M 2 13 + z)) 2 (8430 + i); refine ⟨q, q1, by rw [zup_ne _ _ _ _ (by omega), zup_ne _ _ _ _ (by omega), zup_ne _ _ _ _ (by omega)]; exact q2, by rw [w _ (by omega)]; exact q3, fun i hi => ?_⟩; rw [zup_ne _ _ _ _ (by omega), zup_ne _ _ _ _ (by omega), zup_ne _ _ _ _ (by omega), w _ (by omega)]; exact q4 i hi
  · show (zup (zup (zup M 2 (3630 + 3 * r0 + 2) (M 2 (3630 + 3 * r0 + 2) + 1)) 2 12 (M 2 12 + 1)) 2 13 (M 2 13 + z)) 2 10 = bcntP (zup (zup (zup C 21 2 (C 21 2 + 1)) 22 r0 (C 22 r0 + 1)) 21 3 (C 21 3 + z)); rw [hcP, w _ (by omega)]; exact c14
  · show (zup (zup (zup C 21 2 (C 21 2 + 1)) 22 r0 (C 22 r0 + 1)) 21 3 (C 21 3 + z)) 25 a = (zup (zup (zup M 2 (3630 + 3 * r0 + 2) (M 2 (3630 + 3 * r0 + 2) + 1)) 2 12 (M 2 12 + 1)) 2 13 (M 2 13 + z)) 2 (24 + a); rw [zup_ne _ _ _ _ (by omega), zup_ne _ _ _ _ (by omega), zup_ne _ _ _ _ (by omega), w _ (by omega)]; exact c15 a ha
