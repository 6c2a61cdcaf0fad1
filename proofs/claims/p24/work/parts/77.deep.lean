/-! The class's stack is never deeper than its deepest. -/
def DM (C : zI) : Prop := ∃ a w, C 19 1 = nI a ∧ C 19 2 = nI w ∧ a ≤ w ∧ w ≤ 1000
theorem DM.of {C D : zI} (h : DM C) (e : D 19 = C 19) : DM D := by
  unfold DM
  rw [e]; exact h
theorem DM.set {C : zI} {a p : Nat} (h : DM C) (ha : C 19 1 = nI a) (hp : p ≤ a) (ha2 : a ≤ 1000) : DM (zup C 19 1 (nI p)) := by
  obtain ⟨a', w, h1, h2, h3, h4⟩ := h
  by_cases e : a' < 2 ^ 31
  · obtain rfl : a' = a := (nI_eq (by omega) (by omega)).mp (h1.symm.trans ha)
    exact ⟨p, w, zup_at _ _ _ _, (zup_ne _ _ _ _ (by omega)).trans h2, by omega, h4⟩
  · omega
theorem DM.push {C : zI} {a : Nat} (h : DM C) (ha : C 19 1 = nI a) (ha2 : a < 1000) : DM (bpushC C) := by
  obtain ⟨a', w, h1, h2, h3, h4⟩ := h
  have e1 : bpushC C 19 1 = nI (a + 1) := by rw [bpushC_d, ha]; exact ixA (a := a) (b := 1) rfl (ixC 1)
  have e2 : bpushC C 19 2 = (if nI w < nI (a + 1) then nI (a + 1) else nI w) := by
    unfold bpushC
    rw [zup_at, zup_at, zup_ne _ _ _ _ (by omega), h2, ha, show nI a + 1 = nI (a + 1) from ixA (a := a) (b := 1) rfl (ixC 1)]
  by_cases q : w < a + 1
  · rw [if_pos (nI_lt (a := w) q (by omega))] at e2
    exact ⟨a + 1, a + 1, e1, e2, Nat.le_refl _, by omega⟩
  · rw [if_neg (nI_nlt (a := w) (b := a + 1) (by omega) (by omega))] at e2
    exact ⟨a + 1, w, e1, e2, by omega, h4⟩
theorem DM.get {C : zI} {a : Nat} (h : DM C) (ha : C 19 1 = nI a) (ha2 : a ≤ 1000) : ∃ w, C 19 2 = nI w ∧ a ≤ w ∧ w ≤ 1000 := by
  obtain ⟨a', w, h1, h2, h3, h4⟩ := h
  obtain rfl : a' = a := (nI_eq (by omega) (by omega)).mp (h1.symm.trans ha)
  exact ⟨w, h2, h3, h4⟩
