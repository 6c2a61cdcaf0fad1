/-! A run's step: the focus; what a step leaves; a value comes. -/
theorem pkind_n {M : zI} {n : Nat} (h : n < 2 ^ 31) : pkind M (nI n) = M 1 (5 * n) := by unfold pkind; rw [tn_nI h]
theorem parg_n {M : zI} {n : Nat} (h : n < 2 ^ 31) : parg M (nI n) = M 1 (5 * n + 1) := by unfold parg; rw [tn_nI h]
theorem ppart_n {M : zI} {n k : Nat} (h : n < 2 ^ 31) (hk : k < 2 ^ 31) : ppart M (nI n) (nI k) = M 1 (5 * n + 1 + k) := by unfold ppart; rw [tn_nI h, tn_nI hk]
theorem pof_n {M : zI} {i k : Nat} (h : i < 2 ^ 31) (hk : k < 2 ^ 31) : pof M (nI i) (nI k) = M 4 (7 * i + k) := by unfold pof; rw [tn_nI h, tn_nI hk]
theorem sgn_k : ∀ k, k < 16 → 2 ≤ k → bkind (sgn k) = nI (frk k) ∧ pframeOf (nI k) = nI (frk k) ∧ ¬ sgn k = 48 ∧ ¬ sgn k = 97 := by decide +kernel
/-- the focus is a node -/
def FE (X : zCt) (R : zRf) : Prop := ∃ n, n < nN X ∧ (qM X) 2 17 = nI n ∧ ¬ (qM X) 1 (5 * n) = nI 16 ∧ R 17 4 = some (nE X n) ∧ XR X ((qM X) 2 18) ((qM X) 2 19) (R 17 5) ∧ CV X n ((qM X) 2 18) ((qM X) 2 19)
/-- the main expression and the bodies -/
def BO (b0 n0 : Nat) (X : zCt) (R : zRf) : Prop :=
  (((qM X) 2 0 = -9 ∧ R 17 0 = none) ∨ ∃ n a, n < nN X ∧ (qM X) 2 0 = nI n ∧ ¬ (qM X) 1 (5 * n) = nI 16 ∧ R 17 0 = some a ∧ n0 ≤ a ∧ zIn b0 (qg X) a 0 ∧ (qg X).2.2.2 a 0 = some (nE X n) ∧ (∀ v, ¬ bD X n v) ∧ ¬ rS X n) ∧
  ∀ p, p < 4 → ((qM X) 2 (1 + p) = -9 ∧ R 18 p = none) ∨ ∃ n a, n < nN X ∧ (qM X) 2 (1 + p) = nI n ∧ ¬ (qM X) 1 (5 * n) = nI 16 ∧ R 18 p = some a ∧ n0 ≤ a ∧ zIn b0 (qg X) a 0 ∧ (qg X).2.2.2 a 0 = some (nE X n) ∧ (∀ v, bD X n v → v = 23) ∧ ¬ rS X n
theorem BO.ext {b0 n0 : Nat} {X Y : zCt} {R R' : zRf} (h : BO b0 n0 X R) (hE : EXT X Y) (hW : ∀ j, j < 5 → (qM Y) 2 j = (qM X) 2 j) (h17 : R' 17 0 = R 17 0) (h18 : R' 18 = R 18) : BO b0 n0 Y R' := by
  obtain ⟨⟨hx, hf⟩, -, ⟨h1, ht⟩, -⟩ := hE
  have e1 : nN Y = nN X := congrArg (fun t : zTs => t.1) ht
  have e2 : nE Y = nE X := congrArg (fun t : zTs => t.2.1) ht
  have e3 : bD Y = bD X := congrArg (fun t : zTs => t.2.2.1) ht
  have e4 : rS Y = rS X := congrArg (fun t : zTs => t.2.2.2) ht
  refine ⟨?_, fun p hp => ?_⟩
  · rw [hW 0 (by omega), h17]
    refine h.1.imp id ?_
    rintro ⟨n, a, k1, k2, k3, k4, k5, k6, k7, k8, k9⟩
    refine ⟨n, a, ?_, k2, ?_, k4, k5, k6.xt hx, ?_, ?_, ?_⟩
    · rw [e1]; exact k1
    · rw [h1]; exact k3
    · rw [hx.rw k6, e2]; exact k7
    · rw [e3]; exact k8
    · rw [e4]; exact k9
  · rw [hW (1 + p) (by omega), h18]
    refine (h.2 p hp).imp id ?_
    rintro ⟨n, a, k1, k2, k3, k4, k5, k6, k7, k8, k9⟩
    refine ⟨n, a, ?_, k2, ?_, k4, k5, k6.xt hx, ?_, ?_, ?_⟩
    · rw [e1]; exact k1
    · rw [h1]; exact k3
    · rw [hx.rw k6, e2]; exact k7
    · rw [e3]; exact k8
    · rw [e4]; exact k9
/-- the numbers' bounds, with steps st -/
def PT (X : zCt) (st A : Nat) : Prop := 3 * nP X ≤ A + 105 * st + 2 * nD X ∧ nV X ≤ st ∧ nR X ≤ st ∧ nF X ≤ st
/-- a step leaves a value, a node, an operation -/
def SV (X : zCt) (R : zRf) (C : zI) : Prop := C 17 2 = 1 ∧ R 17 4 = none ∧ (qM X) 2 16 = 1 ∧ C 17 6 = (qM X) 2 20 ∧ (qM X) 2 5 = (if nD X = 0 then 2 else 1)
def SE (X : zCt) (R : zRf) (C : zI) : Prop := C 17 2 = 1 ∧ (qM X) 2 16 = 2 ∧ (qM X) 2 5 = 1 ∧ FE X R
def SP (X : zCt) (R : zRf) (C : zI) : Prop := C 17 2 = 3 ∧ R 17 4 = none ∧ (qM X) 2 16 = 0 ∧ C 17 6 = (qM X) 2 20 ∧ (qM X) 2 5 = 3 ∧ C 17 7 = (qM X) 2 15 ∧ ∃ a, a < 6 ∧ (qM X) 2 15 = nI a
/-- a step's rest: its count and its end aside -/
def SR (b0 n0 : Nat) (X : zCt) (R : zRf) (C : zI) (st : Nat) : Prop := CO b0 n0 X R C ∧ BO b0 n0 X R ∧ (C 17 3 = nI st ∧ (qM X) 2 6 = nI st) ∧
  ((SV X R C ∧ PT X (st + 1) 0) ∨ (SE X R C ∧ PT X (st + 1) 96) ∨ (SP X R C ∧ 3 * nP X + 103 ≤ 105 * (st + 1) + 2 * nD X ∧ nV X ≤ st + 1 ∧ nR X ≤ st ∧ nF X ≤ st + 1))
theorem pbecome_2 {M : zI} {v : Int32} {j : Nat} (h : j ≠ 5) (h2 : j ≠ 16) (h3 : j ≠ 20) : pbecome M v 2 j = M 2 j := by
  unfold pbecome
  rw [zup_ne _ _ _ _ (Or.inr h), zup_ne _ _ _ _ (Or.inr h3), zup_ne _ _ _ _ (Or.inr h2)]
theorem pbecome_r {M : zI} {v : Int32} {r : Nat} (h : r ≠ 2) : pbecome M v r = M r := by
  unfold pbecome
  simp only [zup_r h]
theorem pbecome_v {M : zI} {v : Int32} : pbecome M v 2 16 = 1 ∧ pbecome M v 2 20 = v ∧ pbecome M v 2 5 = (if M 2 7 = -9 then 2 else 1) := by
  unfold pbecome
  refine ⟨?_, ?_, ?_⟩
  · rw [zup_ne _ _ _ _ (by omega), zup_ne _ _ _ _ (by omega), zup_at]
  · rw [zup_ne _ _ _ _ (by omega), zup_at]
  · rw [zup_at, zup_ne _ _ _ _ (by omega), zup_ne _ _ _ _ (by omega)]
theorem CO.seven {b0 n0 : Nat} {X : zCt} {R : zRf} {C : zI} (h : CO b0 n0 X R C) : (qM X) 2 7 = -9 ↔ nD X = 0 := by
  have h7 := h.2.2.2.1.2.1
  by_cases q : nD X = 0
  · rw [h7, if_pos q]; exact ⟨fun _ => q, fun _ => rfl⟩
  · rw [h7, if_neg q]
    have hb := (h.2.2.2.1.d q).1
    have hp := h.2.2.2.2.2.2.2.2
    exact ⟨fun e => absurd e ((iv_nI (N := 40000) (by omega) (by decide)).nn (by decide)), fun e => absurd e q⟩
/-- a value comes: nothing but the focus changes -/
theorem CO.become {b0 n0 : Nat} {g : zG} {f M : zI} {t : zTs} {y : zGs} {n : zNs} {R R' : zRf} {C C' : zI} (h : CO b0 n0 (g, f, M, t, y, n) R C) (hB : BO b0 n0 (g, f, M, t, y, n) R) (v : Int32) (st : Nat)
    (hR : R' 20 = R 20 ∧ R' 18 = R 18 ∧ R' 17 0 = R 17 0 ∧ R' 17 4 = none) (hC : C' 19 = C 19 ∧ C' 21 = C 21 ∧ C' 22 = C 22 ∧ C' 23 = C 23 ∧ C' 24 = C 24 ∧ C' 25 = C 25 ∧ C' 17 11 = C 17 11)
    (h2 : C' 17 2 = 1) (h6 : C' 17 6 = v) (h3 : C' 17 3 = nI st ∧ M 2 6 = nI st) (hP : PT (g, f, M, t, y, n) (st + 1) 0) : SR b0 n0 (g, f, pbecome M v, t, y, n) R' C' st := by
  have h7 := h.seven
  have hv := pbecome_v (M := M) (v := v)
  have z1 : pbecome M v 1 = M 1 := pbecome_r (by decide)
  have z4 : pbecome M v 4 = M 4 := pbecome_r (by decide)
  have z6 : pbecome M v 2 6 = M 2 6 := pbecome_2 (by decide) (by decide) (by decide)
  have hE : EXT (g, f, M, t, y, n) (g, f, pbecome M v, t, y, n) := ⟨⟨zXt.rf, fun _ _ => rfl⟩, fun k _ => congrFun (pbecome_r (M := M) (v := v) (r := 4) (by decide)) k, ⟨pbecome_r (M := M) (v := v) (r := 1) (by decide), rfl⟩, ⟨Nat.le_refl _, Nat.le_refl _, Nat.le_refl _, Nat.le_refl _⟩, fun _ _ => ⟨rfl, rfl⟩, fun _ _ => ⟨rfl, rfl, rfl⟩⟩
  refine ⟨h.of zXt.rf (fun _ _ => rfl) z1 (fun k _ => congrFun z4 k) (fun j hj => pbecome_2 ?_ ?_ ?_) hR.1 hC, hB.ext hE (fun j hj => pbecome_2 (by omega) (by omega) (by omega)) hR.2.2.1 hR.2.1, ⟨h3.1, z6.trans h3.2⟩, Or.inl ⟨⟨h2, hR.2.2.2, hv.1, h6.trans hv.2.1.symm, hv.2.2.trans ?_⟩, hP⟩⟩
  · rcases hj with hj | hj <;> omega
  · rcases hj with hj | hj <;> omega
  · rcases hj with hj | hj <;> omega
  · show (if M 2 7 = -9 then (2 : Int32) else 1) = (if n.1 = 0 then 2 else 1)
    by_cases q : n.1 = 0
    · rw [if_pos q, if_pos (h7.mpr q)]
    · rw [if_neg q, if_neg (fun e => q (h7.mp e))]
theorem pfocus_2 {M : zI} {n e s : Int32} {j : Nat} (h : j < 16 ∨ 20 ≤ j) : pfocusOn M n e s 2 j = M 2 j := by
  unfold pfocusOn
  rw [zup_ne _ _ _ _ (by omega), zup_ne _ _ _ _ (by omega), zup_ne _ _ _ _ (by omega), zup_ne _ _ _ _ (by omega)]
theorem pfocus_r {M : zI} {n e s : Int32} {r : Nat} (h : r ≠ 2) : pfocusOn M n e s r = M r := by
  unfold pfocusOn
  simp only [zup_r h]
theorem pfocus_v {M : zI} {n e s : Int32} : pfocusOn M n e s 2 16 = 2 ∧ pfocusOn M n e s 2 17 = n ∧ pfocusOn M n e s 2 18 = e ∧ pfocusOn M n e s 2 19 = s := by
  unfold pfocusOn
  refine ⟨?_, ?_, ?_, zup_at _ _ _ _⟩
  · rw [zup_ne _ _ _ _ (by omega), zup_ne _ _ _ _ (by omega), zup_ne _ _ _ _ (by omega), zup_at]
  · rw [zup_ne _ _ _ _ (by omega), zup_ne _ _ _ _ (by omega), zup_at]
  · rw [zup_ne _ _ _ _ (by omega), zup_at]
/-- the focus goes to a node: nothing else changes -/
theorem CO.focus {b0 n0 : Nat} {g : zG} {f M : zI} {t : zTs} {y : zGs} {n : zNs} {R R' : zRf} {C C' : zI} {z a b : Int32} (h : CO b0 n0 (g, f, M, t, y, n) R C) (hB : BO b0 n0 (g, f, M, t, y, n) R) (st m : Nat)
    (hR : R' 20 = R 20 ∧ R' 18 = R 18 ∧ R' 17 0 = R 17 0) (hC : C' 19 = C 19 ∧ C' 21 = C 21 ∧ C' 22 = C 22 ∧ C' 23 = C 23 ∧ C' 24 = C 24 ∧ C' 25 = C 25 ∧ C' 17 11 = C 17 11)
    (h2 : C' 17 2 = 1) (h5 : M 2 5 = 1) (h3 : C' 17 3 = nI st ∧ M 2 6 = nI st) (hm : m < t.1 ∧ z = nI m ∧ ¬ M 1 (5 * m) = nI 16 ∧ R' 17 4 = some (t.2.1 m)) (hX : XR (g, f, M, t, y, n) a b (R' 17 5)) (hV : CV (g, f, M, t, y, n) m a b)
    (hP : PT (g, f, M, t, y, n) (st + 1) 96) : SR b0 n0 (g, f, pfocusOn M z a b, t, y, n) R' C' st := by
  have hv := pfocus_v (M := M) (n := z) (e := a) (s := b)
  have z1 : pfocusOn M z a b 1 = M 1 := pfocus_r (by decide)
  have z4 : pfocusOn M z a b 4 = M 4 := pfocus_r (by decide)
  have z5 : pfocusOn M z a b 2 5 = M 2 5 := pfocus_2 (by omega)
  have z6 : pfocusOn M z a b 2 6 = M 2 6 := pfocus_2 (by omega)
  have hE : EXT (g, f, M, t, y, n) (g, f, pfocusOn M z a b, t, y, n) := ⟨⟨zXt.rf, fun _ _ => rfl⟩, fun k _ => congrFun z4 k, ⟨z1, rfl⟩, ⟨Nat.le_refl _, Nat.le_refl _, Nat.le_refl _, Nat.le_refl _⟩, fun _ _ => ⟨rfl, rfl⟩, fun _ _ => ⟨rfl, rfl, rfl⟩⟩
  refine ⟨h.of zXt.rf (fun _ _ => rfl) z1 (fun k _ => congrFun z4 k) (fun j hj => pfocus_2 ?_) hR.1 hC, hB.ext hE (fun j hj => pfocus_2 (by omega)) hR.2.2 hR.2.1, ⟨h3.1, z6.trans h3.2⟩, Or.inr (Or.inl ⟨⟨h2, hv.1, z5.trans h5, m, hm.1, hv.2.1.trans hm.2.1, ?_, hm.2.2.2, ?_, ?_⟩, hP⟩)⟩
  · rcases hj with hj | hj <;> omega
  · show ¬ pfocusOn M z a b 1 _ = _
    rw [z1]; exact hm.2.2.1
  · show XR _ (pfocusOn M z a b 2 18) (pfocusOn M z a b 2 19) _
    rw [hv.2.2.1, hv.2.2.2]
    exact hX.ext hE h.IN
  · show CV _ _ (pfocusOn M z a b 2 18) (pfocusOn M z a b 2 19)
    rw [hv.2.2.1, hv.2.2.2]
    exact hV.ext hE
