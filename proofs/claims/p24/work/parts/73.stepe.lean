/-! A step from an expression, to its end. -/
/-- what failed -/
theorem CO.fail {b0 n0 : Nat} {g : zG} {f M : zI} {t : zTs} {y : zGs} {n : zNs} {R : zRf} {C : zI} {st : Nat} (hC : CO b0 n0 (g, f, M, t, y, n) R C) (hB : BO b0 n0 (g, f, M, t, y, n) R) (h3 : C 17 3 = nI st ∧ M 2 6 = nI st) (hst : st ≤ 1000) :
    RN b0 n0 (g, f, zup (zup M 2 5 4) 2 16 0, t, y, n) R (zup C 17 2 4) := by
  obtain ⟨k1, k2, -⟩ := hC.low (N := zup (zup M 2 5 4) 2 16 0) (D := zup C 17 2 4) hB (fun k hk => by rw [zup_r hk, zup_r hk]) (fun j a b c => by rw [zup_ne _ _ _ _ (Or.inr c), zup_ne _ _ _ _ (Or.inr a)]) (fun k hk => zup_r hk) (zup_ne _ _ _ _ (by omega))
  have z5 : zup (zup M 2 5 4) 2 16 0 2 5 = 4 := by rw [zup_ne _ _ _ _ (by omega), zup_at]
  have z16 : zup (zup M 2 5 4) 2 16 0 2 16 = 0 := zup_at _ _ _ _
  have z6 : zup (zup M 2 5 4) 2 16 0 2 6 = M 2 6 := by rw [zup_ne _ _ _ _ (by omega), zup_ne _ _ _ _ (by omega)]
  have zc : zup C 17 2 4 17 3 = C 17 3 := zup_ne _ _ _ _ (by omega)
  exact ⟨k1, k2, (zup_at _ _ _ _).trans z5.symm, st, hst, zc.trans h3.1, z6.trans h3.2, Or.inr (Or.inr (Or.inr (Or.inr (Or.inl ⟨z5, z16⟩))))⟩
theorem pstep_e {M : zI} (h : M 2 16 = 2) : pstep M = (if (popens M).1 = 0 then zup (zup (popens M).2 2 5 4) 2 16 0 else pcheck (zup (popens M).2 2 6 ((popens M).2 2 6 + 1))) := by
  unfold pstep
  simp only [if_pos h]
theorem pstep_v {M : zI} (h : ¬ M 2 16 = 2) : pstep M = (if (pcloses M).1 = 0 then zup (zup (pcloses M).2 2 5 4) 2 16 0 else pcheck (zup (pcloses M).2 2 6 ((pcloses M).2 2 6 + 1))) := by
  unfold pstep
  simp only [if_neg h]
theorem RN.expr {b0 n0 c dp st : Nat} {g : zG} {f M : zI} {t : zTs} {sg rg mz fi : Nat → Nat} {el : Nat → Nat → Prop} {ci : Nat → Nat → Nat} {d nv nr nf np : Nat} {R : zRf} {C : zI}
    (hC : CO b0 n0 (g, f, M, t, (sg, el, rg, ci, mz, fi), (d, nv, nr, nf, np)) R C) (hB : BO b0 n0 (g, f, M, t, (sg, el, rg, ci, mz, fi), (d, nv, nr, nf, np)) R) (hb : b0 ≤ g.1) (hn0 : n0 ≤ g.1) (h2 : C 17 2 = M 2 5) (h3 : C 17 3 = nI st ∧ M 2 6 = nI st)
    (h : RN2 (g, f, M, t, (sg, el, rg, ci, mz, fi), (d, nv, nr, nf, np)) R C st) : bstepV b0 g R f C c bK dp ∧ pstepV M ∧ ∃ y n, RN b0 n0 ((bstep g R f C bK dp).1, (bstep g R f C bK dp).2.2.1, pstep M, t, y, n) (bstep g R f C bK dp).2.1 (bstep g R f C bK dp).2.2.2 := by
  obtain ⟨m5, hst, m16, hF, hP⟩ := h
  have m5 : M 2 5 = 1 := m5
  have m16 : M 2 16 = 2 := m16
  obtain ⟨e, e1, e2, e3, e4, e5, e6⟩ := CO.into hC hB hb hn0 hF m16 (h2.trans m5) m5 h3 hst hP
  refine ⟨⟨fun x hx => ?_, fun z => absurd (e1.symm.trans z) (fun z => by cases z)⟩, ⟨fun _ => e4, fun z => absurd m16 z⟩, ?_⟩
  · obtain rfl : e = x := Option.some.inj (e1.symm.trans hx)
    exact e3
  rw [pstep_e m16]
  unfold bstep
  rw [bstep0_s e1]
  rcases e6 with ⟨q1, q2, q3⟩ | ⟨q1, y, n, q2⟩
  · rw [bfin_0 (e5.trans q1), if_pos q1, q2, q3]
    exact ⟨_, _, hC.fail hB h3 (by omega)⟩
  · have n0' : ¬ (binto g R f C e bK).2 = 0 := by rw [e5, q1]; decide
    rw [bfin_1 n0', if_neg (show ¬ (popens M).1 = 0 by rw [q1]; decide)]
    exact ⟨y, n, q2.fin hst⟩
