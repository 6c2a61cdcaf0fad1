/-! A run between its steps; the end of a step. -/
def RN1 (X : zCt) (R : zRf) (C : zI) (st : Nat) : Prop := (qM X) 2 5 = 1 ∧ st < 1000 ∧ (qM X) 2 16 = 1 ∧ 1 ≤ nD X ∧ R 17 4 = none ∧ C 17 6 = (qM X) 2 20 ∧ (PT X st 0 ∨ (PT X st 98 ∧ nD X = 1 ∧ (qM X) 4 (7 * fI X 0) = nI 14))
def RN2 (X : zCt) (R : zRf) (C : zI) (st : Nat) : Prop := (qM X) 2 5 = 1 ∧ st < 1000 ∧ (qM X) 2 16 = 2 ∧ FE X R ∧ PT X st 96
def RN3 (X : zCt) (R : zRf) (C : zI) : Prop := (qM X) 2 5 = 2 ∧ (qM X) 2 16 = 1 ∧ nD X = 0 ∧ R 17 4 = none ∧ C 17 6 = (qM X) 2 20
def RN4 (X : zCt) (R : zRf) (C : zI) (st : Nat) : Prop := (qM X) 2 5 = 3 ∧ (qM X) 2 16 = 0 ∧ R 17 4 = none ∧ C 17 6 = (qM X) 2 20 ∧ C 17 7 = (qM X) 2 15 ∧ (∃ a, a < 6 ∧ (qM X) 2 15 = nI a) ∧ 3 * nP X + 103 ≤ 105 * st + 2 * nD X ∧ nV X ≤ st ∧ nR X + 1 ≤ st ∧ nF X ≤ st
/-- a run that was begun: a value is out, a node is to be seen, the end, an operation, what failed, what took too long -/
def RN (b0 n0 : Nat) (X : zCt) (R : zRf) (C : zI) : Prop := CO b0 n0 X R C ∧ BO b0 n0 X R ∧ C 17 2 = (qM X) 2 5 ∧ ∃ st, st ≤ 1000 ∧ C 17 3 = nI st ∧ (qM X) 2 6 = nI st ∧
  (RN1 X R C st ∨ RN2 X R C st ∨ RN3 X R C ∨ RN4 X R C st ∨ ((qM X) 2 5 = 4 ∧ (qM X) 2 16 = 0) ∨ ((qM X) 2 5 = 5 ∧ (qM X) 2 16 = 0))
/-- cells of the tables' row 2 below 7 and from 15 to 20 are the focus and the state -/
theorem CO.low {b0 n0 : Nat} {g : zG} {f M N : zI} {t : zTs} {y : zGs} {n : zNs} {R : zRf} {C D : zI} (h : CO b0 n0 (g, f, M, t, y, n) R C) (hB : BO b0 n0 (g, f, M, t, y, n) R) (hr : ∀ k, k ≠ 2 → N k = M k) (h2 : ∀ j, j ≠ 5 → j ≠ 6 → j ≠ 16 → N 2 j = M 2 j)
    (hC : ∀ k, k ≠ 17 → D k = C k) (h17 : D 17 11 = C 17 11) : CO b0 n0 (g, f, N, t, y, n) R D ∧ BO b0 n0 (g, f, N, t, y, n) R ∧ EXT (g, f, M, t, y, n) (g, f, N, t, y, n) := by
  have hE : EXT (g, f, M, t, y, n) (g, f, N, t, y, n) := ⟨⟨zXt.rf, fun _ _ => rfl⟩, fun k _ => congrFun (hr 4 (by decide)) k, ⟨hr 1 (by decide), rfl⟩, ⟨Nat.le_refl _, Nat.le_refl _, Nat.le_refl _, Nat.le_refl _⟩, fun _ _ => ⟨rfl, rfl⟩, fun _ _ => ⟨rfl, rfl, rfl⟩⟩
  refine ⟨h.of zXt.rf (fun _ _ => rfl) (hr 1 (by decide)) (fun k _ => congrFun (hr 4 (by decide)) k) (fun j hj => h2 j ?_ ?_ ?_) rfl ⟨hC 19 (by decide), hC 21 (by decide), hC 22 (by decide), hC 23 (by decide), hC 24 (by decide), hC 25 (by decide), h17⟩, hB.ext hE (fun j hj => h2 j (by omega) (by omega) (by omega)) rfl rfl, hE⟩
  · rcases hj with hj | hj <;> omega
  · rcases hj with hj | hj <;> omega
  · rcases hj with hj | hj <;> omega
theorem FE.low {b0 : Nat} {g : zG} {f M N : zI} {t : zTs} {y : zGs} {n : zNs} {R : zRf} (hI : IN b0 (g, f, M, t, y, n)) (hE : EXT (g, f, M, t, y, n) (g, f, N, t, y, n)) (h2 : ∀ j, j ≠ 5 → j ≠ 6 → j ≠ 16 → N 2 j = M 2 j) (h1 : N 1 = M 1) (h : FE (g, f, M, t, y, n) R) : FE (g, f, N, t, y, n) R := by
  obtain ⟨m, a1, a2, a3, a4, a5, a6⟩ := h
  refine ⟨m, a1, (h2 17 (by decide) (by decide) (by decide)).trans a2, ?_, a4, ?_, ?_⟩
  · show ¬ N 1 (5 * m) = _
    rw [h1]; exact a3
  · show XR _ (N 2 18) (N 2 19) _
    rw [h2 18 (by decide) (by decide) (by decide), h2 19 (by decide) (by decide) (by decide)]
    exact a5.ext hE hI
  · show CV _ _ (N 2 18) (N 2 19)
    rw [h2 18 (by decide) (by decide) (by decide), h2 19 (by decide) (by decide) (by decide)]
    exact CV.ext hE a6
set_option maxHeartbeats 1000000 in
/-- the end of a step that did not fail -/
theorem SR.fin {b0 n0 : Nat} {g : zG} {f M : zI} {t : zTs} {y : zGs} {n : zNs} {R : zRf} {C : zI} {st : Nat} (h : SR b0 n0 (g, f, M, t, y, n) R C st) (hst : st < 1000) :
    RN b0 n0 (g, f, pcheck (zup M 2 6 (M 2 6 + 1)), t, y, n) R (bend (zup C 17 3 (C 17 3 + 1)) R) := by
  obtain ⟨hC, hB, ⟨c3, m6⟩, hS⟩ := h
  have m6 : M 2 6 = nI st := m6
  have e1 : nI st + 1 = nI (st + 1) := ixA (a := st) (b := 1) rfl (ixC 1)
  have d1 : C 19 1 = nI n.1 := hC.2.2.2.2.1.1.1
  have hd100 : n.1 ≤ 100 := hC.2.2.2.1.1
  rw [c3, m6, e1]
  have hN5 : zup M 2 6 (nI (st + 1)) 2 5 = M 2 5 := zup_ne _ _ _ _ (by omega)
  have hN6 : zup M 2 6 (nI (st + 1)) 2 6 = nI (st + 1) := zup_at _ _ _ _
  have hC2 : zup C 17 3 (nI (st + 1)) 17 2 = C 17 2 := zup_ne _ _ _ _ (by omega)
  have hC3 : zup C 17 3 (nI (st + 1)) 17 3 = nI (st + 1) := zup_at _ _ _ _
  have hC19 : zup C 17 3 (nI (st + 1)) 19 1 = nI n.1 := (zup_ne _ _ _ _ (by omega)).trans d1
  -- one more step, and no more
  have hgo : CO b0 n0 (g, f, zup M 2 6 (nI (st + 1)), t, y, n) R (zup C 17 3 (nI (st + 1))) ∧ BO b0 n0 (g, f, zup M 2 6 (nI (st + 1)), t, y, n) R ∧ EXT (g, f, M, t, y, n) (g, f, zup M 2 6 (nI (st + 1)), t, y, n) :=
    hC.low hB (fun k hk => zup_r hk) (fun j a b c => zup_ne _ _ _ _ (Or.inr b)) (fun k hk => zup_r hk) (zup_ne _ _ _ _ (by omega))
  -- it took too long
  have hlong : M 2 5 = 1 → st + 1 = 1000 → RN b0 n0 (g, f, zup (zup (zup M 2 6 (nI (st + 1))) 2 5 5) 2 16 0, t, y, n) R (zup (zup C 17 3 (nI (st + 1))) 17 2 5) := by
    intro _ h1000
    obtain ⟨k1, k2, -⟩ := hC.low (N := zup (zup (zup M 2 6 (nI (st + 1))) 2 5 5) 2 16 0) (D := zup (zup C 17 3 (nI (st + 1))) 17 2 5) hB (fun k hk => by rw [zup_r hk, zup_r hk, zup_r hk]) (fun j a b c => by rw [zup_ne _ _ _ _ (Or.inr c), zup_ne _ _ _ _ (Or.inr a), zup_ne _ _ _ _ (Or.inr b)]) (fun k hk => by rw [zup_r hk, zup_r hk]) (by rw [zup_ne _ _ _ _ (by omega), zup_ne _ _ _ _ (by omega)])
    have z5 : zup (zup (zup M 2 6 (nI (st + 1))) 2 5 5) 2 16 0 2 5 = 5 := by rw [zup_ne _ _ _ _ (by omega), zup_at]
    have z16 : zup (zup (zup M 2 6 (nI (st + 1))) 2 5 5) 2 16 0 2 16 = 0 := zup_at _ _ _ _
    refine ⟨k1, k2, (zup_at _ _ _ _).trans z5.symm, st + 1, by omega, ?_, ?_, Or.inr (Or.inr (Or.inr (Or.inr (Or.inr ⟨z5, z16⟩))))⟩
    · rw [zup_ne _ _ _ _ (by omega)]; exact hC3
    · show zup (zup (zup M 2 6 (nI (st + 1))) 2 5 5) 2 16 0 2 6 = _
      rw [zup_ne _ _ _ _ (by omega), zup_ne _ _ _ _ (by omega)]; exact hN6
  have hlt : (nI (st + 1) = (1000 : Int32)) ↔ st + 1 = 1000 := nI_eq (b := 1000) (by omega) (by decide)
  unfold pcheck bend
  rw [hN5, hN6, hC2, hC3, hC19]
  rcases hS with ⟨⟨s1, s2, s3, s4, s5⟩, hP⟩ | ⟨⟨s1, s2, s3, s4⟩, hP⟩ | ⟨⟨s1, s2, s3, s4, s5, s6, s7⟩, hP⟩
  · have s5 : M 2 5 = (if n.1 = 0 then 2 else 1) := s5
    have s3 : M 2 16 = 1 := s3
    have s4 : C 17 6 = M 2 20 := s4
    have g16 : zup M 2 6 (nI (st + 1)) 2 16 = 1 := (zup_ne _ _ _ _ (by omega)).trans s3
    have g20 : zup M 2 6 (nI (st + 1)) 2 20 = M 2 20 := zup_ne _ _ _ _ (by omega)
    rw [if_pos s1]
    by_cases q : n.1 = 0
    · have w5 : M 2 5 = 2 := s5.trans (if_pos q)
      rw [if_neg (show ¬ (M 2 5 = 1 ∧ nI (st + 1) = 1000) from fun z => absurd (w5.symm.trans z.1) (by decide)), if_pos (show R 17 4 = none ∧ nI n.1 = 0 from ⟨s2, by rw [q]; rfl⟩)]
      obtain ⟨k1, k2, -⟩ := hC.low (N := zup M 2 6 (nI (st + 1))) (D := zup (zup C 17 3 (nI (st + 1))) 17 2 2) hB (fun k hk => zup_r hk) (fun j a b c => zup_ne _ _ _ _ (Or.inr b)) (fun k hk => by rw [zup_r hk, zup_r hk]) (by rw [zup_ne _ _ _ _ (by omega), zup_ne _ _ _ _ (by omega)])
      refine ⟨k1, k2, (zup_at _ _ _ _).trans (hN5.trans w5).symm, st + 1, by omega, ?_, hN6, Or.inr (Or.inr (Or.inl ⟨hN5.trans w5, g16, q, s2, ?_⟩))⟩
      · rw [zup_ne _ _ _ _ (by omega)]; exact hC3
      · rw [zup_ne _ _ _ _ (by omega), zup_ne _ _ _ _ (by omega)]; exact s4.trans g20.symm
    · have w5 : M 2 5 = 1 := s5.trans (if_neg q)
      rw [if_neg (show ¬ (R 17 4 = none ∧ nI n.1 = 0) from fun z => q ((nI_eq (b := 0) (by omega) (by decide)).mp z.2))]
      by_cases h1000 : st + 1 = 1000
      · rw [if_pos (show M 2 5 = 1 ∧ nI (st + 1) = 1000 from ⟨w5, hlt.mpr h1000⟩), if_neg (show ¬ nI (st + 1) < 1000 from nI_nlt (a := st + 1) (b := 1000) (by omega) (by omega))]
        exact hlong w5 h1000
      · rw [if_neg (show ¬ (M 2 5 = 1 ∧ nI (st + 1) = 1000) from fun z => h1000 (hlt.mp z.2)), if_pos (show nI (st + 1) < 1000 from nI_lt (b := 1000) (by omega) (by decide))]
        refine ⟨hgo.1, hgo.2.1, hC2.trans (s1.trans (hN5.trans w5).symm), st + 1, by omega, hC3, hN6, Or.inl ⟨hN5.trans w5, by omega, g16, by show 1 ≤ n.1; omega, s2, ?_, Or.inl hP⟩⟩
        rw [zup_ne _ _ _ _ (by omega)]; exact s4.trans g20.symm
  · have s2 : M 2 16 = 2 := s2
    have s3 : M 2 5 = 1 := s3
    have g16 : zup M 2 6 (nI (st + 1)) 2 16 = 2 := (zup_ne _ _ _ _ (by omega)).trans s2
    have hR : ¬ R 17 4 = none := by
      obtain ⟨m, -, -, -, a4, -⟩ := s4
      rw [a4]; exact fun z => by cases z
    have hFE : FE (g, f, zup M 2 6 (nI (st + 1)), t, y, n) R := FE.low hC.IN hgo.2.2 (fun j a b c => zup_ne _ _ _ _ (Or.inr b)) (zup_r (by decide)) s4
    rw [if_pos s1, if_neg (show ¬ (R 17 4 = none ∧ nI n.1 = 0) from fun z => hR z.1)]
    by_cases h1000 : st + 1 = 1000
    · rw [if_pos (show M 2 5 = 1 ∧ nI (st + 1) = 1000 from ⟨s3, hlt.mpr h1000⟩), if_neg (show ¬ nI (st + 1) < 1000 from nI_nlt (a := st + 1) (b := 1000) (by omega) (by omega))]
      exact hlong s3 h1000
    · rw [if_neg (show ¬ (M 2 5 = 1 ∧ nI (st + 1) = 1000) from fun z => h1000 (hlt.mp z.2)), if_pos (show nI (st + 1) < 1000 from nI_lt (b := 1000) (by omega) (by decide))]
      exact ⟨hgo.1, hgo.2.1, hC2.trans (s1.trans (hN5.trans s3).symm), st + 1, by omega, hC3, hN6, Or.inr (Or.inl ⟨hN5.trans s3, by omega, g16, hFE, hP⟩)⟩
  · have s3 : M 2 16 = 0 := s3
    have s4 : C 17 6 = M 2 20 := s4
    have s5 : M 2 5 = 3 := s5
    have s6 : C 17 7 = M 2 15 := s6
    have g : ∀ j, j ≠ 6 → zup M 2 6 (nI (st + 1)) 2 j = M 2 j := fun j hj => zup_ne _ _ _ _ (Or.inr hj)
    have g' : ∀ j, j ≠ 3 → zup C 17 3 (nI (st + 1)) 17 j = C 17 j := fun j hj => zup_ne _ _ _ _ (Or.inr hj)
    obtain ⟨a, a1, a2⟩ := s7
    rw [if_neg (show ¬ (M 2 5 = 1 ∧ nI (st + 1) = 1000) from fun z => absurd (s5.symm.trans z.1) (by decide)), if_neg (show ¬ C 17 2 = 1 from fun z => absurd (s1.symm.trans z) (by decide))]
    exact ⟨hgo.1, hgo.2.1, hC2.trans (s1.trans (hN5.trans s5).symm), st + 1, by omega, hC3, hN6, Or.inr (Or.inr (Or.inr (Or.inl ⟨hN5.trans s5, (g 16 (by decide)).trans s3, s2, (g' 6 (by decide)).trans (s4.trans (g 20 (by decide)).symm), (g' 7 (by decide)).trans (s6.trans (g 15 (by decide)).symm), ⟨a, a1, (g 15 (by decide)).trans a2⟩, hP.1, hP.2.1, Nat.succ_le_succ hP.2.2.1, hP.2.2.2⟩)))⟩
