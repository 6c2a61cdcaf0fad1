/-! The search for a pending finalizer: both take the same steps. -/
/-- what a search from M, C, R leaves and finds -/
def SPo (b0 : Nat) (X : zCt) (M C : zI) (R : zRf) (A : Int32 × zI) (B : Option Nat × zI × zRf) : Prop :=
  (SM M A.2 ∧ A.2 0 27 = M 0 27 ∧ ∀ r, A.2 19 r = M 19 r ∨ A.2 19 r = M 0 27) ∧ (SC C B.2.1 ∧ B.2.1 13 4 = C 13 4 ∧ ∀ r, B.2.1 16 r = C 16 r ∨ B.2.1 16 r = C 13 4) ∧ (∀ j, j ≠ 14 → B.2.2 j = R j) ∧
  ((A.1 = -9 ∧ B.1 = none) ∨ ∃ i x, A.1 = nI i ∧ B.1 = some x ∧ i < nP X ∧ zIn b0 (qg X) x 2 ∧ (qf X) x 0 = nI 9 ∧ (qM X) 4 (7 * i) = nI 9 ∧ FK X 9 i x)
theorem SPo.tr {b0 : Nat} {X : zCt} {M C M1 C1 : zI} {R R1 : zRf} {A : Int32 × zI} {B : Option Nat × zI × zRf} (tM : SM M M1 ∧ M1 0 27 = M 0 27 ∧ ∀ r, M1 19 r = M 19 r ∨ M1 19 r = M 0 27) (tC : SC C C1 ∧ C1 13 4 = C 13 4 ∧ ∀ r, C1 16 r = C 16 r ∨ C1 16 r = C 13 4) (tR : ∀ j, j ≠ 14 → R1 j = R j) (h : SPo b0 X M1 C1 R1 A B) : SPo b0 X M C R A B := by
  obtain ⟨⟨a1, a2, a3⟩, ⟨b1, b2, b3⟩, c1, c2⟩ := h
  refine ⟨⟨⟨fun k h1 h2 h3 h4 => (a1.1 k h1 h2 h3 h4).trans (tM.1.1 k h1 h2 h3 h4), fun j hj => (a1.2 j hj).trans (tM.1.2 j hj)⟩, a2.trans tM.2.1, fun r => ?_⟩, ⟨⟨fun k h1 h2 h3 => (b1.1 k h1 h2 h3).trans (tC.1.1 k h1 h2 h3), fun j h1 h2 => (b1.2 j h1 h2).trans (tC.1.2 j h1 h2)⟩, b2.trans tC.2.1, fun r => ?_⟩, fun j hj => (c1 j hj).trans (tR j hj), c2⟩
  · rcases a3 r with e | e
    · rw [e]; exact tM.2.2 r
    · rw [e, tM.2.1]; exact Or.inr rfl
  · rcases b3 r with e | e
    · rw [e]; exact tC.2.2 r
    · rw [e, tC.2.1]; exact Or.inr rfl
theorem SM.rf (M : zI) : SM M M := ⟨fun _ _ _ _ _ => rfl, fun _ _ => rfl⟩
theorem SC.rf (C : zI) : SC C C := ⟨fun _ _ _ _ => rfl, fun _ _ _ => rfl⟩
theorem SM.tr {M N P : zI} (h : SM M N) (k : SM N P) : SM M P := ⟨fun j a b c d => (k.1 j a b c d).trans (h.1 j a b c d), fun j a => (k.2 j a).trans (h.2 j a)⟩
theorem SC.tr {M N P : zI} (h : SC M N) (k : SC N P) : SC M P := ⟨fun j a b c => (k.1 j a b c).trans (h.1 j a b c), fun j a b => (k.2 j a b).trans (h.2 j a b)⟩
/-- the reference's table once a frame is looked at; the class's -/
theorem ppdA_m (M : zI) (n : Nat) : SM M (ppdA M n) ∧ ppdA M n 0 27 = M 0 27 ∧ ∀ r, ppdA M n 19 r = M 19 r := by
  unfold ppdA
  refine ⟨⟨fun k h1 h2 h3 h4 => ?_, fun j hj => ?_⟩, ?_, fun r => ?_⟩
  · simp only [zup_r h2, zup_r h3]
  · simp only; rw [zup_ne _ _ _ _ (by omega), zup_ne _ _ _ _ (by omega)]
  · rw [zup_ne _ _ _ _ (by omega), zup_ne _ _ _ _ (by omega)]
  · rw [zup_ne _ _ _ _ (by omega), zup_ne _ _ _ _ (by omega)]
theorem ppdA_v (M : zI) (n : Nat) : ppdA M n 17 n = pof M (M 17 n) 5 ∧ ppdA M n 18 n = M 18 n - 1 ∧ ∀ j, j ≠ n → ppdA M n 17 j = M 17 j ∧ ppdA M n 18 j = M 18 j := by
  unfold ppdA
  refine ⟨?_, ?_, fun j hj => ⟨?_, ?_⟩⟩
  · rw [zup_ne _ _ _ _ (by omega), zup_at]
  · rw [zup_at, zup_ne _ _ _ _ (by omega)]
  · rw [zup_ne _ _ _ _ (by omega), zup_ne _ _ _ _ (by omega)]
  · rw [zup_ne _ _ _ _ (by omega), zup_ne _ _ _ _ (by omega)]
theorem ppdB_m {M : zI} {n r : Nat} (h : r < 1200) : SM M (ppdB M n (nI r)) ∧ ppdB M n (nI r) 0 27 = M 0 27 ∧ (∀ j, ppdB M n (nI r) 19 j = (if j = r then M 0 27 else M 19 j)) ∧ ppdB M n (nI r) 17 n = M 2 (3630 + 3 * r) ∧ ppdB M n (nI r) 18 n = M 2 (3630 + 3 * r + 1) ∧ ∀ j, j ≠ n → ppdB M n (nI r) 17 j = M 17 j ∧ ppdB M n (nI r) 18 j = M 18 j := by
  have ht : tn (nI r) = r := tn_nI (by omega)
  unfold ppdB
  simp only
  rw [ht]
  refine ⟨⟨fun k h1 h2 h3 h4 => ?_, fun j hj => ?_⟩, ?_, fun j => ?_, ?_, ?_, fun j hj => ⟨?_, ?_⟩⟩
  · rw [zup_r h3, zup_r h2, zup_r h4]
  · rw [zup_ne _ _ _ _ (by omega), zup_ne _ _ _ _ (by omega), zup_ne _ _ _ _ (by omega)]
  · rw [zup_ne _ _ _ _ (by omega), zup_ne _ _ _ _ (by omega), zup_ne _ _ _ _ (by omega)]
  · rw [zup_ne _ _ _ _ (by omega), zup_ne _ _ _ _ (by omega)]
    by_cases e : j = r
    · subst e; rw [zup_at, if_pos rfl]
    · rw [zup_ne _ _ _ _ (by omega), if_neg e]
  · rw [zup_ne _ _ _ _ (by omega), zup_at, zup_ne _ _ _ _ (by omega)]
  · rw [zup_at, zup_ne _ _ _ _ (by omega), zup_ne _ _ _ _ (by omega)]
  · rw [zup_ne _ _ _ _ (by omega), zup_ne _ _ _ _ (by omega), zup_ne _ _ _ _ (by omega)]
  · rw [zup_ne _ _ _ _ (by omega), zup_ne _ _ _ _ (by omega), zup_ne _ _ _ _ (by omega)]
/-- one level of the path, as both see it -/
def SL (X : zCt) (M C : zI) (R : zRf) (j : Nat) : Prop := ∃ r q, r + j + 1 ≤ nR X ∧ q ≤ mZ X r ∧ R 14 j = some (rG X r) ∧ C 15 j = nI q ∧ M 18 j = nI q ∧ (1 ≤ q → M 17 j = nI (cI X r (q - 1)))
theorem SL.same {X : zCt} {M C N D : zI} {R S : zRf} {j : Nat} (h : SL X M C R j) (h1 : S 14 j = R 14 j) (h2 : D 15 j = C 15 j) (h3 : N 18 j = M 18 j) (h4 : N 17 j = M 17 j) : SL X N D S j := by
  obtain ⟨r, q, a1, a2, a3, a4, a5, a6⟩ := h
  exact ⟨r, q, a1, a2, h1.trans a3, h2.trans a4, h3.trans a5, fun z => h4.trans (a6 z)⟩
theorem SS_of {X : zCt} {M C : zI} {R : zRf} {n : Nat} (h1 : C 13 2 = nI n) (h2 : ∀ j, j < n → SL X M C R j) (h3 : ∀ r, r < nR X → (M 19 r = M 0 27 ↔ C 16 r = C 13 4)) : SS X M C R n := ⟨h1, h2, h3⟩
